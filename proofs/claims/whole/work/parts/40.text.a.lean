abbrev yJS_coder : MethodName := ⟨"java/lang/String", "coder", "()B"⟩
abbrev cJS_coder : ByteArray := prog_22_method_152_code
abbrev wsJS_coder : List Cond := .code yJS_coder cJS_coder 1 (some .byte) :: zT
set_option maxRecDepth 100000 in
theorem zc_JS_coder : Cond.code yJS_coder cJS_coder 1 (some .byte) ∈ zT := zm 531 (by rfl) (by rfl)
theorem dJS_coder_0 : decode cJS_coder 0 = .ok (.getstatic 38, 3) := by decide +kernel
theorem dJS_coder_3 : decode cJS_coder 3 = .ok (.ifCond .eq 10, 3) := by decide +kernel
theorem dJS_coder_6 : decode cJS_coder 6 = .ok (.aload_n 0, 1) := by decide +kernel
theorem dJS_coder_7 : decode cJS_coder 7 = .ok (.getfield 15, 3) := by decide +kernel
theorem dJS_coder_10 : decode cJS_coder 10 = .ok (.goto 4, 3) := by decide +kernel
theorem dJS_coder_13 : decode cJS_coder 13 = .ok (.iconst 1, 1) := by decide +kernel
theorem dJS_coder_14 : decode cJS_coder 14 = .ok (.ireturn, 1) := by decide +kernel
theorem zw_1331 : Cond.fieldLink "java/lang/String" 9 "java/lang/String" "value" "[B" ∈ zT := zm 1331 (by decide +kernel) (by decide +kernel)
theorem zw_532 : Cond.fieldLink "java/lang/String" 38 "java/lang/String" "COMPACT_STRINGS" "Z" ∈ zT := zm 532 (by decide +kernel) (by decide +kernel)
theorem zw_1332 : Cond.fieldLink "java/lang/String" 15 "java/lang/String" "coder" "B" ∈ zT := zm 1332 (by decide +kernel) (by decide +kernel)
theorem zw_528 : Cond.methodLink "java/lang/String" 335 ⟨"java/lang/String", "coder", "()B"⟩ ∈ zT := zm 528 (by decide +kernel) (by decide +kernel)
theorem zw_112 : Cond.initialized "java/lang/String" ∈ zT := zm 112 (by decide +kernel) (by decide +kernel)
theorem zw_529 : Cond.instanceMethod ⟨"java/lang/String", "coder", "()B"⟩ ∈ zT := zm 529 (by decide +kernel) (by decide +kernel)
theorem zw_530 : Cond.selects "java/lang/String" ⟨"java/lang/String", "coder", "()B"⟩ ⟨"java/lang/String", "coder", "()B"⟩ ∈ zT := zm 530 (by decide +kernel) (by decide +kernel)
theorem zw_524 : Cond.methodLink "FootprintRules$Words" 36 ⟨"java/lang/String", "length", "()I"⟩ ∈ zT := zm 524 (by decide +kernel) (by decide +kernel)
theorem zw_525 : Cond.instanceMethod ⟨"java/lang/String", "length", "()I"⟩ ∈ zT := zm 525 (by decide +kernel) (by decide +kernel)
theorem zw_526 : Cond.selects "java/lang/String" ⟨"java/lang/String", "length", "()I"⟩ ⟨"java/lang/String", "length", "()I"⟩ ∈ zT := zm 526 (by decide +kernel) (by decide +kernel)
theorem zw_542 : Cond.methodLink "java/lang/String" 492 ⟨"java/lang/String", "isLatin1", "()Z"⟩ ∈ zT := zm 542 (by decide +kernel) (by decide +kernel)
theorem zw_543 : Cond.instanceMethod ⟨"java/lang/String", "isLatin1", "()Z"⟩ ∈ zT := zm 543 (by decide +kernel) (by decide +kernel)
theorem zw_544 : Cond.selects "java/lang/String" ⟨"java/lang/String", "isLatin1", "()Z"⟩ ⟨"java/lang/String", "isLatin1", "()Z"⟩ ∈ zT := zm 544 (by decide +kernel) (by decide +kernel)
theorem zw_554 : Cond.methodLink "java/lang/String" 1059 ⟨"jdk/internal/util/Preconditions", "checkIndex", "(IILjava/util/function/BiFunction;)I"⟩ ∈ zT := zm 554 (by decide +kernel) (by decide +kernel)
theorem zw_114 : Cond.initialized "jdk/internal/util/Preconditions" ∈ zT := zm 114 (by decide +kernel) (by decide +kernel)
theorem zw_555 : Cond.static ⟨"jdk/internal/util/Preconditions", "checkIndex", "(IILjava/util/function/BiFunction;)I"⟩ ∈ zT := zm 555 (by decide +kernel) (by decide +kernel)
theorem zw_552 : Cond.fieldLink "java/lang/String" 1053 "jdk/internal/util/Preconditions" "SIOOBE_FORMATTER" "Ljava/util/function/BiFunction;" ∈ zT := zm 552 (by decide +kernel) (by decide +kernel)
theorem zw_549 : Cond.methodLink "java/lang/StringLatin1" 9 ⟨"java/lang/String", "checkIndex", "(II)V"⟩ ∈ zT := zm 549 (by decide +kernel) (by decide +kernel)
theorem zw_550 : Cond.static ⟨"java/lang/String", "checkIndex", "(II)V"⟩ ∈ zT := zm 550 (by decide +kernel) (by decide +kernel)
theorem zw_546 : Cond.methodLink "java/lang/String" 495 ⟨"java/lang/StringLatin1", "charAt", "([BI)C"⟩ ∈ zT := zm 546 (by decide +kernel) (by decide +kernel)
theorem zw_113 : Cond.initialized "java/lang/StringLatin1" ∈ zT := zm 113 (by decide +kernel) (by decide +kernel)
theorem zw_547 : Cond.static ⟨"java/lang/StringLatin1", "charAt", "([BI)C"⟩ ∈ zT := zm 547 (by decide +kernel) (by decide +kernel)
theorem zw_538 : Cond.methodLink "FootprintRules$Words" 44 ⟨"java/lang/String", "charAt", "(I)C"⟩ ∈ zT := zm 538 (by decide +kernel) (by decide +kernel)
theorem zw_539 : Cond.instanceMethod ⟨"java/lang/String", "charAt", "(I)C"⟩ ∈ zT := zm 539 (by decide +kernel) (by decide +kernel)
theorem zw_540 : Cond.selects "java/lang/String" ⟨"java/lang/String", "charAt", "(I)C"⟩ ⟨"java/lang/String", "charAt", "(I)C"⟩ ∈ zT := zm 540 (by decide +kernel) (by decide +kernel)
theorem zw_231 : Cond.fieldLink "FootprintRules$Family" 25 "FootprintRules$Family" "kind" "LFootprintRules$Kind;" ∈ zT := zm 231 (by decide +kernel) (by decide +kernel)
theorem zw_580 : Cond.fieldLink "FootprintRules$Family" 28 "FootprintRules$Key" "ROUNDING" "LFootprintRules$Key;" ∈ zT := zm 580 (by decide +kernel) (by decide +kernel)
theorem zw_582 : Cond.methodLink "FootprintRules$Family" 34 ⟨"FootprintRules$Family", "put", "(LFootprintRules$Key;II)V"⟩ ∈ zT := zm 582 (by decide +kernel) (by decide +kernel)
theorem zw_584 : Cond.instanceMethod ⟨"FootprintRules$Family", "put", "(LFootprintRules$Key;II)V"⟩ ∈ zT := zm 584 (by decide +kernel) (by decide +kernel)
theorem zw_14 : Cond.selects "FootprintRules$Family" ⟨"FootprintRules$Family", "put", "(LFootprintRules$Key;II)V"⟩ ⟨"FootprintRules$Family", "put", "(LFootprintRules$Key;II)V"⟩ ∈ zT := zm 14 (by decide +kernel) (by decide +kernel)
theorem zn_1334 : Cond.fieldLinkNest "FootprintRules$Family" 42 "FootprintRules$Kind" "capitals" "Ljava/lang/String;" "FootprintRules" ∈ zNW := znm 1334 (by decide +kernel) (by decide +kernel)
theorem zw_586 : Cond.methodLink "FootprintRules$Family" 46 ⟨"java/lang/String", "length", "()I"⟩ ∈ zT := zm 586 (by decide +kernel) (by decide +kernel)
theorem zw_587 : Cond.methodLink "FootprintRules$Family" 52 ⟨"java/lang/String", "charAt", "(I)C"⟩ ∈ zT := zm 587 (by decide +kernel) (by decide +kernel)
theorem zw_588 : Cond.methodLink "FootprintRules$Family" 56 ⟨"FootprintRules$Family", "addLetter", "(C)V"⟩ ∈ zT := zm 588 (by decide +kernel) (by decide +kernel)
theorem zw_590 : Cond.instanceMethod ⟨"FootprintRules$Family", "addLetter", "(C)V"⟩ ∈ zT := zm 590 (by decide +kernel) (by decide +kernel)
theorem zw_15 : Cond.selects "FootprintRules$Family" ⟨"FootprintRules$Family", "addLetter", "(C)V"⟩ ⟨"FootprintRules$Family", "addLetter", "(C)V"⟩ ∈ zT := zm 15 (by decide +kernel) (by decide +kernel)
theorem zw_904 : Cond.methodLink "FootprintRules$Line" 19 ⟨"java/lang/String", "length", "()I"⟩ ∈ zT := zm 904 (by decide +kernel) (by decide +kernel)
theorem zw_905 : Cond.methodLink "FootprintRules$Line" 24 ⟨"java/lang/String", "charAt", "(I)C"⟩ ∈ zT := zm 905 (by decide +kernel) (by decide +kernel)
theorem zw_158 : Cond.fieldLink "FootprintRules$FamilyReader" 12 "FootprintRules$FamilyReader" "words" "LFootprintRules$Words;" ∈ zT := zm 158 (by decide +kernel) (by decide +kernel)
theorem zn_499 : Cond.methodLinkNest "FootprintRules$FamilyReader" 18 ⟨"FootprintRules$Words", "rewind", "()V"⟩ "FootprintRules" ∈ zNW := znm 499 (by decide +kernel) (by decide +kernel)
theorem zw_501 : Cond.instanceMethod ⟨"FootprintRules$Words", "rewind", "()V"⟩ ∈ zT := zm 501 (by decide +kernel) (by decide +kernel)
theorem zw_7 : Cond.selects "FootprintRules$Words" ⟨"FootprintRules$Words", "rewind", "()V"⟩ ⟨"FootprintRules$Words", "rewind", "()V"⟩ ∈ zT := zm 7 (by decide +kernel) (by decide +kernel)
theorem zw_160 : Cond.fieldLink "FootprintRules$FamilyReader" 21 "FootprintRules$FamilyReader" "toldKeys" "I" ∈ zT := zm 160 (by decide +kernel) (by decide +kernel)
theorem zn_503 : Cond.methodLinkNest "FootprintRules$FamilyReader" 25 ⟨"FootprintRules$Words", "next", "()Z"⟩ "FootprintRules" ∈ zNW := znm 503 (by decide +kernel) (by decide +kernel)
theorem zw_505 : Cond.instanceMethod ⟨"FootprintRules$Words", "next", "()Z"⟩ ∈ zT := zm 505 (by decide +kernel) (by decide +kernel)
theorem zw_8 : Cond.selects "FootprintRules$Words" ⟨"FootprintRules$Words", "next", "()Z"⟩ ⟨"FootprintRules$Words", "next", "()Z"⟩ ∈ zT := zm 8 (by decide +kernel) (by decide +kernel)
theorem zn_144 : Cond.fieldLinkNest "FootprintRules$FamilyReader" 33 "FootprintRules$Words" "place" "I" "FootprintRules" ∈ zNW := znm 144 (by decide +kernel) (by decide +kernel)
theorem zn_514 : Cond.fieldLinkNest "FootprintRules$FamilyReader" 39 "FootprintRules" "KINDS" "[LFootprintRules$Kind;" "FootprintRules" ∈ zNW := znm 514 (by decide +kernel) (by decide +kernel)
theorem zn_1330 : Cond.fieldLinkNest "FootprintRules$FamilyReader" 43 "FootprintRules$Kind" "word" "Ljava/lang/String;" "FootprintRules" ∈ zNW := znm 1330 (by decide +kernel) (by decide +kernel)
theorem zn_516 : Cond.methodLinkNest "FootprintRules$FamilyReader" 49 ⟨"FootprintRules$Words", "are", "(Ljava/lang/String;)Z"⟩ "FootprintRules" ∈ zNW := znm 516 (by decide +kernel) (by decide +kernel)
theorem zw_518 : Cond.instanceMethod ⟨"FootprintRules$Words", "are", "(Ljava/lang/String;)Z"⟩ ∈ zT := zm 518 (by decide +kernel) (by decide +kernel)
theorem zw_10 : Cond.selects "FootprintRules$Words" ⟨"FootprintRules$Words", "are", "(Ljava/lang/String;)Z"⟩ ⟨"FootprintRules$Words", "are", "(Ljava/lang/String;)Z"⟩ ∈ zT := zm 10 (by decide +kernel) (by decide +kernel)
theorem zn_576 : Cond.methodLinkNest "FootprintRules$FamilyReader" 53 ⟨"FootprintRules$Family", "begin", "(LFootprintRules$Kind;)V"⟩ "FootprintRules" ∈ zNW := znm 576 (by decide +kernel) (by decide +kernel)
theorem zw_578 : Cond.instanceMethod ⟨"FootprintRules$Family", "begin", "(LFootprintRules$Kind;)V"⟩ ∈ zT := zm 578 (by decide +kernel) (by decide +kernel)
theorem zw_13 : Cond.selects "FootprintRules$Family" ⟨"FootprintRules$Family", "begin", "(LFootprintRules$Kind;)V"⟩ ⟨"FootprintRules$Family", "begin", "(LFootprintRules$Kind;)V"⟩ ∈ zT := zm 13 (by decide +kernel) (by decide +kernel)
theorem zw_510 : Cond.methodLink "FootprintRules$FamilyReader" 29 ⟨"FootprintRules$FamilyReader", "readKind", "(LFootprintRules$Family;)Z"⟩ ∈ zT := zm 510 (by decide +kernel) (by decide +kernel)
theorem zw_96 : Cond.initialized "FootprintRules$FamilyReader" ∈ zT := zm 96 (by decide +kernel) (by decide +kernel)
theorem zw_512 : Cond.instanceMethod ⟨"FootprintRules$FamilyReader", "readKind", "(LFootprintRules$Family;)Z"⟩ ∈ zT := zm 512 (by decide +kernel) (by decide +kernel)
theorem zw_9 : Cond.selects "FootprintRules$FamilyReader" ⟨"FootprintRules$FamilyReader", "readKind", "(LFootprintRules$Family;)Z"⟩ ⟨"FootprintRules$FamilyReader", "readKind", "(LFootprintRules$Family;)Z"⟩ ∈ zT := zm 9 (by decide +kernel) (by decide +kernel)
theorem zn_596 : Cond.fieldLinkNest "FootprintRules$FamilyReader" 59 "FootprintRules" "KEYS" "[LFootprintRules$Key;" "FootprintRules" ∈ zNW := znm 596 (by decide +kernel) (by decide +kernel)
theorem zn_1335 : Cond.fieldLinkNest "FootprintRules$FamilyReader" 63 "FootprintRules$Key" "word" "Ljava/lang/String;" "FootprintRules" ∈ zNW := znm 1335 (by decide +kernel) (by decide +kernel)
theorem zw_602 : Cond.fieldLink "FootprintRules$FamilyReader" 70 "FootprintRules$Key" "NAME" "LFootprintRules$Key;" ∈ zT := zm 602 (by decide +kernel) (by decide +kernel)
theorem zn_608 : Cond.methodLinkNest "FootprintRules$FamilyReader" 92 ⟨"FootprintRules$Words", "size", "()I"⟩ "FootprintRules" ∈ zNW := znm 608 (by decide +kernel) (by decide +kernel)
theorem zn_609 : Cond.methodLinkNest "FootprintRules$FamilyReader" 95 ⟨"FootprintRules$Words", "areWithin", "(CC)Z"⟩ "FootprintRules" ∈ zNW := znm 609 (by decide +kernel) (by decide +kernel)
theorem zn_229 : Cond.fieldLinkNest "FootprintRules$FamilyReader" 99 "FootprintRules$Family" "letterCount" "I" "FootprintRules" ∈ zNW := znm 229 (by decide +kernel) (by decide +kernel)
theorem zn_613 : Cond.methodLinkNest "FootprintRules$FamilyReader" 102 ⟨"FootprintRules$Words", "at", "(I)C"⟩ "FootprintRules" ∈ zNW := znm 613 (by decide +kernel) (by decide +kernel)
theorem zn_614 : Cond.methodLinkNest "FootprintRules$FamilyReader" 106 ⟨"FootprintRules$Family", "addLetter", "(C)V"⟩ "FootprintRules" ∈ zNW := znm 614 (by decide +kernel) (by decide +kernel)
theorem zw_604 : Cond.methodLink "FootprintRules$FamilyReader" 74 ⟨"FootprintRules$FamilyReader", "readLetters", "(LFootprintRules$Family;)Z"⟩ ∈ zT := zm 604 (by decide +kernel) (by decide +kernel)
theorem zw_606 : Cond.instanceMethod ⟨"FootprintRules$FamilyReader", "readLetters", "(LFootprintRules$Family;)Z"⟩ ∈ zT := zm 606 (by decide +kernel) (by decide +kernel)
theorem zw_18 : Cond.selects "FootprintRules$FamilyReader" ⟨"FootprintRules$FamilyReader", "readLetters", "(LFootprintRules$Family;)Z"⟩ ⟨"FootprintRules$FamilyReader", "readLetters", "(LFootprintRules$Family;)Z"⟩ ∈ zT := zm 18 (by decide +kernel) (by decide +kernel)
theorem zn_1336 : Cond.fieldLinkNest "FootprintRules$FamilyReader" 77 "FootprintRules$Key" "many" "I" "FootprintRules" ∈ zNW := znm 1336 (by decide +kernel) (by decide +kernel)
theorem zn_615 : Cond.methodLinkNest "FootprintRules$FamilyReader" 80 ⟨"FootprintRules$Words", "value", "()I"⟩ "FootprintRules" ∈ zNW := znm 615 (by decide +kernel) (by decide +kernel)
theorem zw_617 : Cond.instanceMethod ⟨"FootprintRules$Words", "value", "()I"⟩ ∈ zT := zm 617 (by decide +kernel) (by decide +kernel)
theorem zw_20 : Cond.selects "FootprintRules$Words" ⟨"FootprintRules$Words", "value", "()I"⟩ ⟨"FootprintRules$Words", "value", "()I"⟩ ∈ zT := zm 20 (by decide +kernel) (by decide +kernel)
theorem zn_620 : Cond.methodLinkNest "FootprintRules$FamilyReader" 84 ⟨"FootprintRules$Key", "takes", "(I)Z"⟩ "FootprintRules" ∈ zNW := znm 620 (by decide +kernel) (by decide +kernel)
theorem zw_116 : Cond.initialized "FootprintRules$Key" ∈ zT := zm 116 (by decide +kernel) (by decide +kernel)
theorem zw_622 : Cond.instanceMethod ⟨"FootprintRules$Key", "takes", "(I)Z"⟩ ∈ zT := zm 622 (by decide +kernel) (by decide +kernel)
theorem zw_21 : Cond.selects "FootprintRules$Key" ⟨"FootprintRules$Key", "takes", "(I)Z"⟩ ⟨"FootprintRules$Key", "takes", "(I)Z"⟩ ∈ zT := zm 21 (by decide +kernel) (by decide +kernel)
theorem zn_629 : Cond.methodLinkNest "FootprintRules$FamilyReader" 88 ⟨"FootprintRules$Family", "put", "(LFootprintRules$Key;II)V"⟩ "FootprintRules" ∈ zNW := znm 629 (by decide +kernel) (by decide +kernel)
theorem zw_598 : Cond.methodLink "FootprintRules$FamilyReader" 66 ⟨"FootprintRules$FamilyReader", "readValues", "(LFootprintRules$Family;LFootprintRules$Key;)Z"⟩ ∈ zT := zm 598 (by decide +kernel) (by decide +kernel)
theorem zw_600 : Cond.instanceMethod ⟨"FootprintRules$FamilyReader", "readValues", "(LFootprintRules$Family;LFootprintRules$Key;)Z"⟩ ∈ zT := zm 600 (by decide +kernel) (by decide +kernel)
theorem zw_17 : Cond.selects "FootprintRules$FamilyReader" ⟨"FootprintRules$FamilyReader", "readValues", "(LFootprintRules$Family;LFootprintRules$Key;)Z"⟩ ⟨"FootprintRules$FamilyReader", "readValues", "(LFootprintRules$Family;LFootprintRules$Key;)Z"⟩ ∈ zT := zm 17 (by decide +kernel) (by decide +kernel)
theorem zw_592 : Cond.methodLink "FootprintRules$FamilyReader" 36 ⟨"FootprintRules$FamilyReader", "readKey", "(LFootprintRules$Family;)Z"⟩ ∈ zT := zm 592 (by decide +kernel) (by decide +kernel)
theorem zw_594 : Cond.instanceMethod ⟨"FootprintRules$FamilyReader", "readKey", "(LFootprintRules$Family;)Z"⟩ ∈ zT := zm 594 (by decide +kernel) (by decide +kernel)
theorem zw_16 : Cond.selects "FootprintRules$FamilyReader" ⟨"FootprintRules$FamilyReader", "readKey", "(LFootprintRules$Family;)Z"⟩ ⟨"FootprintRules$FamilyReader", "readKey", "(LFootprintRules$Family;)Z"⟩ ∈ zT := zm 16 (by decide +kernel) (by decide +kernel)
theorem zn_272 : Cond.fieldLinkNest "FootprintRules$Footprint" 157 "FootprintRules$Line" "length" "I" "FootprintRules" ∈ zNW := znm 272 (by decide +kernel) (by decide +kernel)
theorem zw_876 : Cond.methodLink "FootprintRules$Footprint" 160 ⟨"FootprintRules$Footprint", "writeName", "()V"⟩ ∈ zT := zm 876 (by decide +kernel) (by decide +kernel)
theorem zw_878 : Cond.instanceMethod ⟨"FootprintRules$Footprint", "writeName", "()V"⟩ ∈ zT := zm 878 (by decide +kernel) (by decide +kernel)
theorem zw_51 : Cond.selects "FootprintRules$Footprint" ⟨"FootprintRules$Footprint", "writeName", "()V"⟩ ⟨"FootprintRules$Footprint", "writeName", "()V"⟩ ∈ zT := zm 51 (by decide +kernel) (by decide +kernel)
theorem zw_298 : Cond.fieldLink "FootprintRules$Footprint" 151 "FootprintRules$Footprint" "nameLength" "I" ∈ zT := zm 298 (by decide +kernel) (by decide +kernel)
theorem zn_900 : Cond.methodLinkNest "FootprintRules$Footprint" 173 ⟨"FootprintRules$Line", "addWord", "(Ljava/lang/String;)V"⟩ "FootprintRules" ∈ zNW := znm 900 (by decide +kernel) (by decide +kernel)
theorem zw_902 : Cond.instanceMethod ⟨"FootprintRules$Line", "addWord", "(Ljava/lang/String;)V"⟩ ∈ zT := zm 902 (by decide +kernel) (by decide +kernel)
theorem zw_55 : Cond.selects "FootprintRules$Line" ⟨"FootprintRules$Line", "addWord", "(Ljava/lang/String;)V"⟩ ⟨"FootprintRules$Line", "addWord", "(Ljava/lang/String;)V"⟩ ∈ zT := zm 55 (by decide +kernel) (by decide +kernel)
theorem zw_895 : Cond.methodLink "FootprintRules$Footprint" 167 ⟨"FootprintRules$Footprint", "writePad", "(I)V"⟩ ∈ zT := zm 895 (by decide +kernel) (by decide +kernel)
theorem zw_897 : Cond.instanceMethod ⟨"FootprintRules$Footprint", "writePad", "(I)V"⟩ ∈ zT := zm 897 (by decide +kernel) (by decide +kernel)
theorem zw_54 : Cond.selects "FootprintRules$Footprint" ⟨"FootprintRules$Footprint", "writePad", "(I)V"⟩ ⟨"FootprintRules$Footprint", "writePad", "(I)V"⟩ ∈ zT := zm 54 (by decide +kernel) (by decide +kernel)
theorem zw_872 : Cond.methodLink "FootprintRules$Footprint" 148 ⟨"FootprintRules$Footprint", "writeOnce", "()V"⟩ ∈ zT := zm 872 (by decide +kernel) (by decide +kernel)
theorem zw_874 : Cond.instanceMethod ⟨"FootprintRules$Footprint", "writeOnce", "()V"⟩ ∈ zT := zm 874 (by decide +kernel) (by decide +kernel)
theorem zw_50 : Cond.selects "FootprintRules$Footprint" ⟨"FootprintRules$Footprint", "writeOnce", "()V"⟩ ⟨"FootprintRules$Footprint", "writeOnce", "()V"⟩ ∈ zT := zm 50 (by decide +kernel) (by decide +kernel)
theorem zn_906 : Cond.methodLinkNest "FootprintRules$Footprint" 154 ⟨"FootprintRules$Line", "unitAt", "(I)I"⟩ "FootprintRules" ∈ zNW := znm 906 (by decide +kernel) (by decide +kernel)
theorem zw_908 : Cond.instanceMethod ⟨"FootprintRules$Line", "unitAt", "(I)I"⟩ ∈ zT := zm 908 (by decide +kernel) (by decide +kernel)
theorem zw_56 : Cond.selects "FootprintRules$Line" ⟨"FootprintRules$Line", "unitAt", "(I)I"⟩ ⟨"FootprintRules$Line", "unitAt", "(I)I"⟩ ∈ zT := zm 56 (by decide +kernel) (by decide +kernel)
-- java/lang/String.coder()B
abbrev w_JS_coder (ad : Nat → Nat → Nat)    : va_W := []
def P_JS_coder (p0 : Nat) (post : Int32 → Prop) : Prop := (((1 : Int32) = 0 → post 1) ∧ (¬ (1 : Int32) = 0 → p0 < zNS ∧ post 0))
set_option maxHeartbeats 4000000 in
set_option maxRecDepth 100000 in
theorem c_JS_coder (l : Launch) (dC : Nat → ClassId) (dI : Nat → Nat → Nat) (ad : Nat → Nat → Nat)   (sz : Nat) (p0 : Nat) (post : Int32 → Prop) (h : P_JS_coder p0 post) : zMi l yJS_coder wsJS_coder { frames := 0, cells := 0, slots := 0, locals := 0 } (dC, dI) ad [.ref (ad 2 p0)] (w_JS_coder ad ) [] sz (fun (r : Int32) (u : Unit) => post r) (fun (u : Unit) => (w_JS_coder ad )) 0 0 := by
  refine va_MetF (cc := cJS_coder) (maxL := 1) (ret := (some .byte)) (by decide +kernel) rfl ?_
  intro p e s m args below meth c s₁ B hml hv
  obtain ⟨rfl, hsz, hP, hK, hD0, hE⟩ := hv
  have hx := B.exec
  have hb := B.bytes
  have hr := B.returns
  have hts0 := atoms_spec (ws := wsJS_coder) B.pre
  have hts := fun w h => hts0 w (List.mem_cons_of_mem _ h)
  have hown : s.vm.findClass RJS = some m.cls := findClass_of_methodNamed B.named
  have hlocks := B.notSynchronized
  subst hsz
  have hD := hD0.self (sz := s.heap.size)
  generalize hAe : va_A (w_JS_coder ad ) s.heap.size = A at hD hE ⊢
  have hA : ∀ q : Nat, s.heap.size ≤ q → A q := fun q h => by rw [← hAe]; exact Or.inr h
  have C0 := zC.mk hx hb hr hml hown hts hlocks hA
  have hS : va_S A s.heap s.heap [] := va_S.rf
  have hl := lv_entry ([.ref (ad 2 p0)]) (n := 1) (Nat.le_of_ble_eq_true rfl)
  rw [lg_entry_eq]
  generalize (lg_sl ([.ref (ad 2 p0)]) ++ List.replicate (1 - (lg_sl ([.ref (ad 2 p0)])).length) Slot.unset).toArray = ls at hl ⊢
  have hl : lv_has ls 1 [(0, .ref (ad 2 p0))] := hl
  unfold P_JS_coder at h
  refine va_gets hx hb hE.stCS hS hown (hts _ zw_532) (fun _ h9 => h9) dJS_coder_0 ?_
  refine lv_if_eq (tgt := 13) hx hb dJS_coder_3 (by decide) ?_ ?_
  · intro c1
    replace h := h.1 c1
    refine lv_iconst (v := 1) hx hb dJS_coder_13 (by decide) ?_
    exact W.zret (v := 1) hx hb hr rfl (fun t ht hW => ⟨⟨1, (()), rfl, h, by rw [ht]; exact hP, hD⟩, hS.F ht⟩) hS.2.2 dJS_coder_14
  · intro c1
    replace h := h.2 c1
    refine lv_aload_n hx hb dJS_coder_6 rfl (lv_at hl 0 rfl) ?_
    obtain ⟨hn2, h⟩ := h
    refine vk_getf hx hb ((hE.str _ hn2).2.1) hS hown (hts _ zw_1332) (fun _ h9 => h9) dJS_coder_7 ?_
    refine lv_goto (tgt := 14) hx hb dJS_coder_10 (by decide) ?_
    exact W.zret (v := 0) hx hb hr rfl (fun t ht hW => ⟨⟨0, (()), rfl, h, by rw [ht]; exact hP, hD⟩, hS.F ht⟩) hS.2.2 dJS_coder_14
abbrev yJS_length : MethodName := ⟨"java/lang/String", "length", "()I"⟩
abbrev cJS_length : ByteArray := prog_22_method_54_code
abbrev wsJS_length : List Cond := .code yJS_length cJS_length 1 (some .int) :: zT
set_option maxRecDepth 100000 in
theorem zc_JS_length : Cond.code yJS_length cJS_length 1 (some .int) ∈ zT := zm 527 (by rfl) (by rfl)
theorem dJS_length_0 : decode cJS_length 0 = .ok (.aload_n 0, 1) := by decide +kernel
theorem dJS_length_1 : decode cJS_length 1 = .ok (.getfield 9, 3) := by decide +kernel
theorem dJS_length_4 : decode cJS_length 4 = .ok (.arraylength, 1) := by decide +kernel
theorem dJS_length_5 : decode cJS_length 5 = .ok (.aload_n 0, 1) := by decide +kernel
theorem dJS_length_6 : decode cJS_length 6 = .ok (.invokevirtual 335, 3) := by decide +kernel
theorem dJS_length_9 : decode cJS_length 9 = .ok (.ishr, 1) := by decide +kernel
theorem dJS_length_10 : decode cJS_length 10 = .ok (.ireturn, 1) := by decide +kernel
-- java/lang/String.length()I
abbrev w_JS_length (ad : Nat → Nat → Nat)    : va_W := []
def P_JS_length (p0 : Nat) (post : Int32 → Prop) : Prop := p0 < zNS ∧ p0 < zNS ∧ p0 < zNS ∧ P_JS_coder p0 (fun (r3 : Int32) => post ((Int32.ofNat (zLen.getD p0 0)) >>> (r3 &&& 31)))
set_option maxHeartbeats 4000000 in
set_option maxRecDepth 100000 in
theorem c_JS_length (l : Launch) (dC : Nat → ClassId) (dI : Nat → Nat → Nat) (ad : Nat → Nat → Nat)   (sz : Nat) (p0 : Nat) (post : Int32 → Prop) (h : P_JS_length p0 post) : zMi l yJS_length wsJS_length { frames := 1, cells := 0, slots := 0, locals := 20 } (dC, dI) ad [.ref (ad 2 p0)] (w_JS_length ad ) [] sz (fun (r : Int32) (u : Unit) => post r) (fun (u : Unit) => (w_JS_length ad )) 0 0 := by
  refine va_MetF (cc := cJS_length) (maxL := 1) (ret := (some .int)) (by decide +kernel) rfl ?_
  intro p e s m args below meth c s₁ B hml hv
  obtain ⟨rfl, hsz, hP, hK, hD0, hE⟩ := hv
  have hx := B.exec
  have hb := B.bytes
  have hr := B.returns
  have hts0 := atoms_spec (ws := wsJS_length) B.pre
  have hts := fun w h => hts0 w (List.mem_cons_of_mem _ h)
  have hown : s.vm.findClass RJS = some m.cls := findClass_of_methodNamed B.named
  have hlocks := B.notSynchronized
  subst hsz
  have hD := hD0.self (sz := s.heap.size)
  generalize hAe : va_A (w_JS_length ad ) s.heap.size = A at hD hE ⊢
  have hA : ∀ q : Nat, s.heap.size ≤ q → A q := fun q h => by rw [← hAe]; exact Or.inr h
  have C0 := zC.mk hx hb hr hml hown hts hlocks hA
  have hS : va_S A s.heap s.heap [] := va_S.rf
  have hl := lv_entry ([.ref (ad 2 p0)]) (n := 1) (Nat.le_of_ble_eq_true rfl)
  rw [lg_entry_eq]
  generalize (lg_sl ([.ref (ad 2 p0)]) ++ List.replicate (1 - (lg_sl ([.ref (ad 2 p0)])).length) Slot.unset).toArray = ls at hl ⊢
  have hl : lv_has ls 1 [(0, .ref (ad 2 p0))] := hl
  unfold P_JS_length at h
  refine lv_aload_n hx hb dJS_length_0 rfl (lv_at hl 0 rfl) ?_
  obtain ⟨hn1, h⟩ := h
  refine vk_getf hx hb ((hE.str _ hn1).2.2.1) hS hown (hts _ zw_1331) (fun _ h9 => h9) dJS_length_1 ?_
  obtain ⟨hn2, h⟩ := h
  refine va_tlen hx hb ((hE.str _ hn2).2.2.2) hS rfl dJS_length_4 ?_
  refine lv_aload_n hx hb dJS_length_5 rfl (lv_at hl 0 rfl) ?_
  obtain ⟨hn4, h⟩ := h
  refine zcall_i hP hD hS hA [] [] (va_runV (As := []) (rest := [.int (Int32.ofNat (zLen.getD p0 0))]) ⟨hx, hb, hml, hown, hts⟩ (c_JS_coder l dC dI ad _ p0 _ h) ⟨callB_of 0 hts (zgood zc_JS_coder) rfl rfl rfl (hts _ zw_112) (hts _ zw_528) (by decide +kernel) ⟨Nat.le_of_ble_eq_true rfl, Nat.le_of_ble_eq_true rfl⟩, (hts _ zw_529), (hts _ zw_530)⟩ (zpreC hE hK hP hD hS hA [] [] (by rfl) (by rfl) (by decide) (zS_recv hE.str hn4 hS)) rfl rfl hl.1 rfl (lv_room (Nat.le_of_ble_eq_true rfl)) dJS_length_6 ⟨Nat.le_of_ble_eq_true rfl, Nat.le_of_ble_eq_true rfl⟩) (by rfl) (by rfl) (by decide) (by decide) (fun r3 u H locs h hP hD hS => ?_)
  try dsimp only at h
  have hP := hP.sub (ws' := (w_JS_length ad )) [] rfl
  have hD := hD.sub (ws' := (w_JS_length ad )) [] (by decide) rfl
  refine lv_ishr hx hb dJS_length_9 ?_
  exact W.iret (v := ((Int32.ofNat (zLen.getD p0 0)) >>> (r3 &&& 31))) hx hb hr (fun t ht hW => ⟨⟨((Int32.ofNat (zLen.getD p0 0)) >>> (r3 &&& 31)), (()), rfl, h, by rw [ht]; exact hP, hD⟩, hS.F ht⟩) hS.2.2 dJS_length_10
abbrev yJS_isLatin1 : MethodName := ⟨"java/lang/String", "isLatin1", "()Z"⟩
abbrev cJS_isLatin1 : ByteArray := prog_22_method_154_code
abbrev wsJS_isLatin1 : List Cond := .code yJS_isLatin1 cJS_isLatin1 1 (some .boolean) :: zT
set_option maxRecDepth 100000 in
theorem zc_JS_isLatin1 : Cond.code yJS_isLatin1 cJS_isLatin1 1 (some .boolean) ∈ zT := zm 545 (by rfl) (by rfl)
theorem dJS_isLatin1_0 : decode cJS_isLatin1 0 = .ok (.getstatic 38, 3) := by decide +kernel
theorem dJS_isLatin1_3 : decode cJS_isLatin1 3 = .ok (.ifCond .eq 14, 3) := by decide +kernel
theorem dJS_isLatin1_6 : decode cJS_isLatin1 6 = .ok (.aload_n 0, 1) := by decide +kernel
theorem dJS_isLatin1_7 : decode cJS_isLatin1 7 = .ok (.getfield 15, 3) := by decide +kernel
theorem dJS_isLatin1_10 : decode cJS_isLatin1 10 = .ok (.ifCond .ne 7, 3) := by decide +kernel
theorem dJS_isLatin1_13 : decode cJS_isLatin1 13 = .ok (.iconst 1, 1) := by decide +kernel
theorem dJS_isLatin1_14 : decode cJS_isLatin1 14 = .ok (.goto 4, 3) := by decide +kernel
theorem dJS_isLatin1_17 : decode cJS_isLatin1 17 = .ok (.iconst 0, 1) := by decide +kernel
theorem dJS_isLatin1_18 : decode cJS_isLatin1 18 = .ok (.ireturn, 1) := by decide +kernel
-- java/lang/String.isLatin1()Z
abbrev w_JS_isLatin1 (ad : Nat → Nat → Nat)    : va_W := []
def P_JS_isLatin1 (p0 : Nat) (post : Int32 → Prop) : Prop := (((1 : Int32) = 0 → post 0) ∧ (¬ (1 : Int32) = 0 → p0 < zNS ∧ ((¬ (0 : Int32) = 0 → post 0) ∧ ((0 : Int32) = 0 → post 1))))
set_option maxHeartbeats 4000000 in
set_option maxRecDepth 100000 in
theorem c_JS_isLatin1 (l : Launch) (dC : Nat → ClassId) (dI : Nat → Nat → Nat) (ad : Nat → Nat → Nat)   (sz : Nat) (p0 : Nat) (post : Int32 → Prop) (h : P_JS_isLatin1 p0 post) : zMi l yJS_isLatin1 wsJS_isLatin1 { frames := 0, cells := 0, slots := 0, locals := 0 } (dC, dI) ad [.ref (ad 2 p0)] (w_JS_isLatin1 ad ) [] sz (fun (r : Int32) (u : Unit) => post r) (fun (u : Unit) => (w_JS_isLatin1 ad )) 0 0 := by
  refine va_MetF (cc := cJS_isLatin1) (maxL := 1) (ret := (some .boolean)) (by decide +kernel) rfl ?_
  intro p e s m args below meth c s₁ B hml hv
  obtain ⟨rfl, hsz, hP, hK, hD0, hE⟩ := hv
  have hx := B.exec
  have hb := B.bytes
  have hr := B.returns
  have hts0 := atoms_spec (ws := wsJS_isLatin1) B.pre
  have hts := fun w h => hts0 w (List.mem_cons_of_mem _ h)
  have hown : s.vm.findClass RJS = some m.cls := findClass_of_methodNamed B.named
  have hlocks := B.notSynchronized
  subst hsz
  have hD := hD0.self (sz := s.heap.size)
  generalize hAe : va_A (w_JS_isLatin1 ad ) s.heap.size = A at hD hE ⊢
  have hA : ∀ q : Nat, s.heap.size ≤ q → A q := fun q h => by rw [← hAe]; exact Or.inr h
  have C0 := zC.mk hx hb hr hml hown hts hlocks hA
  have hS : va_S A s.heap s.heap [] := va_S.rf
  have hl := lv_entry ([.ref (ad 2 p0)]) (n := 1) (Nat.le_of_ble_eq_true rfl)
  rw [lg_entry_eq]
  generalize (lg_sl ([.ref (ad 2 p0)]) ++ List.replicate (1 - (lg_sl ([.ref (ad 2 p0)])).length) Slot.unset).toArray = ls at hl ⊢
  have hl : lv_has ls 1 [(0, .ref (ad 2 p0))] := hl
  unfold P_JS_isLatin1 at h
  refine va_gets hx hb hE.stCS hS hown (hts _ zw_532) (fun _ h9 => h9) dJS_isLatin1_0 ?_
  refine lv_if_eq (tgt := 17) hx hb dJS_isLatin1_3 (by decide) ?_ ?_
  · intro c1
    replace h := h.1 c1
    refine lv_iconst (v := 0) hx hb dJS_isLatin1_17 (by decide) ?_
    exact W.zret (v := 0) hx hb hr rfl (fun t ht hW => ⟨⟨0, (()), rfl, h, by rw [ht]; exact hP, hD⟩, hS.F ht⟩) hS.2.2 dJS_isLatin1_18
  · intro c1
    replace h := h.2 c1
    refine lv_aload_n hx hb dJS_isLatin1_6 rfl (lv_at hl 0 rfl) ?_
    obtain ⟨hn2, h⟩ := h
    refine vk_getf hx hb ((hE.str _ hn2).2.1) hS hown (hts _ zw_1332) (fun _ h9 => h9) dJS_isLatin1_7 ?_
    refine lv_if_ne (tgt := 17) hx hb dJS_isLatin1_10 (by decide) ?_ ?_
    · intro c3
      replace h := h.1 c3
      refine lv_iconst (v := 0) hx hb dJS_isLatin1_17 (by decide) ?_
      exact W.zret (v := 0) hx hb hr rfl (fun t ht hW => ⟨⟨0, (()), rfl, h, by rw [ht]; exact hP, hD⟩, hS.F ht⟩) hS.2.2 dJS_isLatin1_18
    · intro c3
      replace h := h.2 c3
      refine lv_iconst (v := 1) hx hb dJS_isLatin1_13 (by decide) ?_
      refine lv_goto (tgt := 18) hx hb dJS_isLatin1_14 (by decide) ?_
      exact W.zret (v := 1) hx hb hr rfl (fun t ht hW => ⟨⟨1, (()), rfl, h, by rw [ht]; exact hP, hD⟩, hS.F ht⟩) hS.2.2 dJS_isLatin1_18
abbrev yJP_checkIndex_n : MethodName := ⟨"jdk/internal/util/Preconditions", "checkIndex", "(IILjava/util/function/BiFunction;)I"⟩
abbrev cJP_checkIndex_n : ByteArray := prog_26_method_11_code
abbrev wsJP_checkIndex_n : List Cond := .code yJP_checkIndex_n cJP_checkIndex_n 3 (some .int) :: zT
set_option maxRecDepth 100000 in
theorem zc_JP_checkIndex_n : Cond.code yJP_checkIndex_n cJP_checkIndex_n 3 (some .int) ∈ zT := zm 556 (by rfl) (by rfl)
theorem dJP_checkIndex_n_0 : decode cJP_checkIndex_n 0 = .ok (.iload_n 0, 1) := by decide +kernel
theorem dJP_checkIndex_n_1 : decode cJP_checkIndex_n 1 = .ok (.ifCond .lt 8, 3) := by decide +kernel
theorem dJP_checkIndex_n_4 : decode cJP_checkIndex_n 4 = .ok (.iload_n 0, 1) := by decide +kernel
theorem dJP_checkIndex_n_5 : decode cJP_checkIndex_n 5 = .ok (.iload_n 1, 1) := by decide +kernel
theorem dJP_checkIndex_n_6 : decode cJP_checkIndex_n 6 = .ok (.if_icmp .lt 10, 3) := by decide +kernel
theorem dJP_checkIndex_n_16 : decode cJP_checkIndex_n 16 = .ok (.iload_n 0, 1) := by decide +kernel
theorem dJP_checkIndex_n_17 : decode cJP_checkIndex_n 17 = .ok (.ireturn, 1) := by decide +kernel
-- jdk/internal/util/Preconditions.checkIndex(IILjava/util/function/BiFunction;)I
abbrev w_JP_checkIndex_n (ad : Nat → Nat → Nat)    : va_W := []
def P_JP_checkIndex_n_9  (post : Int32 → Prop)  : Prop := False
set_option maxHeartbeats 4000000 in
set_option maxRecDepth 100000 in
theorem w_JP_checkIndex_n_9 (l : Launch) {p : Program} {e : Env} {s : State} {m : MethodId} {args : Array Value} {below : List Frame} {meth : Method} {c : Code} {dC : Nat → ClassId} {dI : Nat → Nat → Nat} {ad : Nat → Nat → Nat} {A : Nat → Prop} (C0 : zC p s m args meth c cJP_checkIndex_n 3 RJP zT (some .int) A) (hE : zE ad A s)   (p0 : Int32) (p1 : Int32) (post : Int32 → Prop) (hK : va_K (dC, dI) vwCl [] s) : ∀  (H : Heap) (locs : List Loc), P_JP_checkIndex_n_9 post → va_P (dC, dI) vwCl (w_JP_checkIndex_n ad ) H → va_D A (w_JP_checkIndex_n ad ) → va_S A s.heap H locs → ∀ ls : Array Slot, lv_has ls 3 [(0, .int p0), (1, .int p1), (2, .null)] → W p l e (headSpec wsJP_checkIndex_n { frames := 0, cells := 0, slots := 0, locals := 0 }).room s m args below meth c H locs 0 0 (MQ below (va_Qi (fun (r : Int32) (u : Unit) => post r) (zB (dC, dI) A (fun (u : Unit) => (w_JP_checkIndex_n ad ))) A) args s 0 0 A) (F0 m 9 ls []) := by
  obtain ⟨hx, hb, hr, hml, hown, hts, hlocks, hA⟩ := id C0
  intro  H locs h hP hD hS ls hl
  unfold P_JP_checkIndex_n_9 at h
  exact False.elim h
def P_JP_checkIndex_n (p0 : Int32) (p1 : Int32) (post : Int32 → Prop) : Prop := ((p0 < 0 → P_JP_checkIndex_n_9 post) ∧ (¬ p0 < 0 → ((p0 < p1 → post p0) ∧ (¬ p0 < p1 → P_JP_checkIndex_n_9 post))))
set_option maxHeartbeats 4000000 in
set_option maxRecDepth 100000 in
theorem c_JP_checkIndex_n (l : Launch) (dC : Nat → ClassId) (dI : Nat → Nat → Nat) (ad : Nat → Nat → Nat)   (sz : Nat) (p0 : Int32) (p1 : Int32) (post : Int32 → Prop) (h : P_JP_checkIndex_n p0 p1 post) : zMi l yJP_checkIndex_n wsJP_checkIndex_n { frames := 0, cells := 0, slots := 0, locals := 0 } (dC, dI) ad [.int p0, .int p1, .null] (w_JP_checkIndex_n ad ) [] sz (fun (r : Int32) (u : Unit) => post r) (fun (u : Unit) => (w_JP_checkIndex_n ad )) 0 0 := by
  refine va_MetF (cc := cJP_checkIndex_n) (maxL := 3) (ret := (some .int)) (by decide +kernel) rfl ?_
  intro p e s m args below meth c s₁ B hml hv
  obtain ⟨rfl, hsz, hP, hK, hD0, hE⟩ := hv
  have hx := B.exec
  have hb := B.bytes
  have hr := B.returns
  have hts0 := atoms_spec (ws := wsJP_checkIndex_n) B.pre
  have hts := fun w h => hts0 w (List.mem_cons_of_mem _ h)
  have hown : s.vm.findClass RJP = some m.cls := findClass_of_methodNamed B.named
  have hlocks := B.notSynchronized
  subst hsz
  have hD := hD0.self (sz := s.heap.size)
  generalize hAe : va_A (w_JP_checkIndex_n ad ) s.heap.size = A at hD hE ⊢
  have hA : ∀ q : Nat, s.heap.size ≤ q → A q := fun q h => by rw [← hAe]; exact Or.inr h
  have C0 := zC.mk hx hb hr hml hown hts hlocks hA
  have hS : va_S A s.heap s.heap [] := va_S.rf
  have hl := lv_entry ([.int p0, .int p1, .null]) (n := 3) (Nat.le_of_ble_eq_true rfl)
  rw [lg_entry_eq]
  generalize (lg_sl ([.int p0, .int p1, .null]) ++ List.replicate (3 - (lg_sl ([.int p0, .int p1, .null])).length) Slot.unset).toArray = ls at hl ⊢
  have hl : lv_has ls 3 [(0, .int p0), (1, .int p1), (2, .null)] := hl
  unfold P_JP_checkIndex_n at h
  refine lv_iload_n hx hb dJP_checkIndex_n_0 rfl (lv_at hl 0 rfl) ?_
  refine lv_if_lt (tgt := 9) hx hb dJP_checkIndex_n_1 (by decide) ?_ ?_
  · intro c1
    replace h := h.1 c1
    exact w_JP_checkIndex_n_9 l C0 hE p0 p1 post hK _ _ h hP hD hS ls (lv_sub hl [0, 1, 2] rfl)
  · intro c1
    replace h := h.2 c1
    refine lv_iload_n hx hb dJP_checkIndex_n_4 rfl (lv_at hl 0 rfl) ?_
    refine lv_iload_n hx hb dJP_checkIndex_n_5 rfl (lv_at hl 1 rfl) ?_
    refine lv_icmp_lt (tgt := 16) hx hb dJP_checkIndex_n_6 (by decide) ?_ ?_
    · intro c2
      replace h := h.1 c2
      refine lv_iload_n hx hb dJP_checkIndex_n_16 rfl (lv_at hl 0 rfl) ?_
      exact W.iret (v := p0) hx hb hr (fun t ht hW => ⟨⟨p0, (()), rfl, h, by rw [ht]; exact hP, hD⟩, hS.F ht⟩) hS.2.2 dJP_checkIndex_n_17
    · intro c2
      replace h := h.2 c2
      exact w_JP_checkIndex_n_9 l C0 hE p0 p1 post hK _ _ h hP hD hS ls (lv_sub hl [0, 1, 2] rfl)
abbrev yJP_checkIndex_r : MethodName := ⟨"jdk/internal/util/Preconditions", "checkIndex", "(IILjava/util/function/BiFunction;)I"⟩
abbrev cJP_checkIndex_r : ByteArray := prog_26_method_11_code
abbrev wsJP_checkIndex_r : List Cond := .code yJP_checkIndex_r cJP_checkIndex_r 3 (some .int) :: zT
set_option maxRecDepth 100000 in
theorem zc_JP_checkIndex_r : Cond.code yJP_checkIndex_r cJP_checkIndex_r 3 (some .int) ∈ zT := zm 556 (by rfl) (by rfl)
theorem dJP_checkIndex_r_0 : decode cJP_checkIndex_r 0 = .ok (.iload_n 0, 1) := by decide +kernel
theorem dJP_checkIndex_r_1 : decode cJP_checkIndex_r 1 = .ok (.ifCond .lt 8, 3) := by decide +kernel
theorem dJP_checkIndex_r_4 : decode cJP_checkIndex_r 4 = .ok (.iload_n 0, 1) := by decide +kernel
theorem dJP_checkIndex_r_5 : decode cJP_checkIndex_r 5 = .ok (.iload_n 1, 1) := by decide +kernel
theorem dJP_checkIndex_r_6 : decode cJP_checkIndex_r 6 = .ok (.if_icmp .lt 10, 3) := by decide +kernel
theorem dJP_checkIndex_r_16 : decode cJP_checkIndex_r 16 = .ok (.iload_n 0, 1) := by decide +kernel
theorem dJP_checkIndex_r_17 : decode cJP_checkIndex_r 17 = .ok (.ireturn, 1) := by decide +kernel
-- jdk/internal/util/Preconditions.checkIndex(IILjava/util/function/BiFunction;)I
abbrev w_JP_checkIndex_r (ad : Nat → Nat → Nat)    : va_W := []
def P_JP_checkIndex_r_9  (post : Int32 → Prop)  : Prop := False
set_option maxHeartbeats 4000000 in
set_option maxRecDepth 100000 in
theorem w_JP_checkIndex_r_9 (l : Launch) {p : Program} {e : Env} {s : State} {m : MethodId} {args : Array Value} {below : List Frame} {meth : Method} {c : Code} {dC : Nat → ClassId} {dI : Nat → Nat → Nat} {ad : Nat → Nat → Nat} {A : Nat → Prop} (C0 : zC p s m args meth c cJP_checkIndex_r 3 RJP zT (some .int) A) (hE : zE ad A s)   (p0 : Int32) (p1 : Int32) (p2 : Nat) (post : Int32 → Prop) (hK : va_K (dC, dI) vwCl [] s) : ∀  (H : Heap) (locs : List Loc), P_JP_checkIndex_r_9 post → va_P (dC, dI) vwCl (w_JP_checkIndex_r ad ) H → va_D A (w_JP_checkIndex_r ad ) → va_S A s.heap H locs → ∀ ls : Array Slot, lv_has ls 3 [(0, .int p0), (1, .int p1), (2, .ref p2)] → W p l e (headSpec wsJP_checkIndex_r { frames := 0, cells := 0, slots := 0, locals := 0 }).room s m args below meth c H locs 0 0 (MQ below (va_Qi (fun (r : Int32) (u : Unit) => post r) (zB (dC, dI) A (fun (u : Unit) => (w_JP_checkIndex_r ad ))) A) args s 0 0 A) (F0 m 9 ls []) := by
  obtain ⟨hx, hb, hr, hml, hown, hts, hlocks, hA⟩ := id C0
  intro  H locs h hP hD hS ls hl
  unfold P_JP_checkIndex_r_9 at h
  exact False.elim h
def P_JP_checkIndex_r (p0 : Int32) (p1 : Int32) (post : Int32 → Prop) : Prop := ((p0 < 0 → P_JP_checkIndex_r_9 post) ∧ (¬ p0 < 0 → ((p0 < p1 → post p0) ∧ (¬ p0 < p1 → P_JP_checkIndex_r_9 post))))
set_option maxHeartbeats 4000000 in
set_option maxRecDepth 100000 in
theorem c_JP_checkIndex_r (l : Launch) (dC : Nat → ClassId) (dI : Nat → Nat → Nat) (ad : Nat → Nat → Nat)   (sz : Nat) (p0 : Int32) (p1 : Int32) (p2 : Nat) (post : Int32 → Prop) (h : P_JP_checkIndex_r p0 p1 post) : zMi l yJP_checkIndex_r wsJP_checkIndex_r { frames := 0, cells := 0, slots := 0, locals := 0 } (dC, dI) ad [.int p0, .int p1, .ref p2] (w_JP_checkIndex_r ad ) [] sz (fun (r : Int32) (u : Unit) => post r) (fun (u : Unit) => (w_JP_checkIndex_r ad )) 0 0 := by
  refine va_MetF (cc := cJP_checkIndex_r) (maxL := 3) (ret := (some .int)) (by decide +kernel) rfl ?_
  intro p e s m args below meth c s₁ B hml hv
  obtain ⟨rfl, hsz, hP, hK, hD0, hE⟩ := hv
  have hx := B.exec
  have hb := B.bytes
  have hr := B.returns
  have hts0 := atoms_spec (ws := wsJP_checkIndex_r) B.pre
  have hts := fun w h => hts0 w (List.mem_cons_of_mem _ h)
  have hown : s.vm.findClass RJP = some m.cls := findClass_of_methodNamed B.named
  have hlocks := B.notSynchronized
  subst hsz
  have hD := hD0.self (sz := s.heap.size)
  generalize hAe : va_A (w_JP_checkIndex_r ad ) s.heap.size = A at hD hE ⊢
  have hA : ∀ q : Nat, s.heap.size ≤ q → A q := fun q h => by rw [← hAe]; exact Or.inr h
  have C0 := zC.mk hx hb hr hml hown hts hlocks hA
  have hS : va_S A s.heap s.heap [] := va_S.rf
  have hl := lv_entry ([.int p0, .int p1, .ref p2]) (n := 3) (Nat.le_of_ble_eq_true rfl)
  rw [lg_entry_eq]
  generalize (lg_sl ([.int p0, .int p1, .ref p2]) ++ List.replicate (3 - (lg_sl ([.int p0, .int p1, .ref p2])).length) Slot.unset).toArray = ls at hl ⊢
  have hl : lv_has ls 3 [(0, .int p0), (1, .int p1), (2, .ref p2)] := hl
  unfold P_JP_checkIndex_r at h
  refine lv_iload_n hx hb dJP_checkIndex_r_0 rfl (lv_at hl 0 rfl) ?_
  refine lv_if_lt (tgt := 9) hx hb dJP_checkIndex_r_1 (by decide) ?_ ?_
  · intro c1
    replace h := h.1 c1
    exact w_JP_checkIndex_r_9 l C0 hE p0 p1 p2 post hK _ _ h hP hD hS ls (lv_sub hl [0, 1, 2] rfl)
  · intro c1
    replace h := h.2 c1
    refine lv_iload_n hx hb dJP_checkIndex_r_4 rfl (lv_at hl 0 rfl) ?_
    refine lv_iload_n hx hb dJP_checkIndex_r_5 rfl (lv_at hl 1 rfl) ?_
    refine lv_icmp_lt (tgt := 16) hx hb dJP_checkIndex_r_6 (by decide) ?_ ?_
    · intro c2
      replace h := h.1 c2
      refine lv_iload_n hx hb dJP_checkIndex_r_16 rfl (lv_at hl 0 rfl) ?_
      exact W.iret (v := p0) hx hb hr (fun t ht hW => ⟨⟨p0, (()), rfl, h, by rw [ht]; exact hP, hD⟩, hS.F ht⟩) hS.2.2 dJP_checkIndex_r_17
    · intro c2
      replace h := h.2 c2
      exact w_JP_checkIndex_r_9 l C0 hE p0 p1 p2 post hK _ _ h hP hD hS ls (lv_sub hl [0, 1, 2] rfl)
abbrev yJS_checkIndex : MethodName := ⟨"java/lang/String", "checkIndex", "(II)V"⟩
abbrev cJS_checkIndex : ByteArray := prog_22_method_155_code
abbrev wsJS_checkIndex : List Cond := .code yJS_checkIndex cJS_checkIndex 2 none :: zT
set_option maxRecDepth 100000 in
theorem zc_JS_checkIndex : Cond.code yJS_checkIndex cJS_checkIndex 2 none ∈ zT := zm 551 (by rfl) (by rfl)
theorem dJS_checkIndex_0 : decode cJS_checkIndex 0 = .ok (.iload_n 0, 1) := by decide +kernel
theorem dJS_checkIndex_1 : decode cJS_checkIndex 1 = .ok (.iload_n 1, 1) := by decide +kernel
theorem dJS_checkIndex_2 : decode cJS_checkIndex 2 = .ok (.getstatic 1053, 3) := by decide +kernel
theorem dJS_checkIndex_5 : decode cJS_checkIndex 5 = .ok (.invokestatic 1059, 3) := by decide +kernel
theorem dJS_checkIndex_8 : decode cJS_checkIndex 8 = .ok (.pop, 1) := by decide +kernel
theorem dJS_checkIndex_9 : decode cJS_checkIndex 9 = .ok (.return_, 1) := by decide +kernel
-- java/lang/String.checkIndex(II)V
abbrev w_JS_checkIndex (ad : Nat → Nat → Nat)    : va_W := []
def P_JS_checkIndex (p0 : Int32) (p1 : Int32) (post : Prop) : Prop := P_JP_checkIndex_n p0 p1 (fun (r1 : Int32) => post)
set_option maxHeartbeats 4000000 in
set_option maxRecDepth 100000 in
theorem c_JS_checkIndex (l : Launch) (dC : Nat → ClassId) (dI : Nat → Nat → Nat) (ad : Nat → Nat → Nat)   (sz : Nat) (p0 : Int32) (p1 : Int32) (post : Prop) (h : P_JS_checkIndex p0 p1 post) : zMv l yJS_checkIndex wsJS_checkIndex { frames := 1, cells := 0, slots := 0, locals := 22 } (dC, dI) ad [.int p0, .int p1] (w_JS_checkIndex ad ) [] sz (fun (u : Unit) => post) (fun (u : Unit) => (w_JS_checkIndex ad )) 0 0 := by
  refine va_MetF (cc := cJS_checkIndex) (maxL := 2) (ret := none) (by decide +kernel) rfl ?_
  intro p e s m args below meth c s₁ B hml hv
  obtain ⟨rfl, hsz, hP, hK, hD0, hE⟩ := hv
  have hx := B.exec
  have hb := B.bytes
  have hr := B.returns
  have hts0 := atoms_spec (ws := wsJS_checkIndex) B.pre
  have hts := fun w h => hts0 w (List.mem_cons_of_mem _ h)
  have hown : s.vm.findClass RJS = some m.cls := findClass_of_methodNamed B.named
  have hlocks := B.notSynchronized
  subst hsz
  have hD := hD0.self (sz := s.heap.size)
  generalize hAe : va_A (w_JS_checkIndex ad ) s.heap.size = A at hD hE ⊢
  have hA : ∀ q : Nat, s.heap.size ≤ q → A q := fun q h => by rw [← hAe]; exact Or.inr h
  have C0 := zC.mk hx hb hr hml hown hts hlocks hA
  have hS : va_S A s.heap s.heap [] := va_S.rf
  have hl := lv_entry ([.int p0, .int p1]) (n := 2) (Nat.le_of_ble_eq_true rfl)
  rw [lg_entry_eq]
  generalize (lg_sl ([.int p0, .int p1]) ++ List.replicate (2 - (lg_sl ([.int p0, .int p1])).length) Slot.unset).toArray = ls at hl ⊢
  have hl : lv_has ls 2 [(0, .int p0), (1, .int p1)] := hl
  unfold P_JS_checkIndex at h
  refine lv_iload_n hx hb dJS_checkIndex_0 rfl (lv_at hl 0 rfl) ?_
  refine lv_iload_n hx hb dJS_checkIndex_1 rfl (lv_at hl 1 rfl) ?_
  rcases hE.fmt with hz | ⟨tq, hz⟩
  · refine va_gets hx hb hz hS hown (hts _ zw_552) (fun _ h9 => h9) dJS_checkIndex_2 ?_
    refine zcall_i hP hD hS hA [] [] (va_runS (As := [.int p0, .int p1, .null]) (rest := []) ⟨hx, hb, hml, hown, hts⟩ (c_JP_checkIndex_n l dC dI ad _ p0 p1 _ h) ⟨callB_of 3 hts (zgood zc_JP_checkIndex_n) rfl rfl rfl (hts _ zw_114) (hts _ zw_554) (by decide +kernel) ⟨Nat.le_of_ble_eq_true rfl, Nat.le_of_ble_eq_true rfl⟩, (hts _ zw_555)⟩ (zpreS hE hK hP hD hS hA [] [] (by rfl) (by rfl) (by decide)) rfl rfl hl.1 rfl (lv_room (Nat.le_of_ble_eq_true rfl)) dJS_checkIndex_5 ⟨Nat.le_of_ble_eq_true rfl, Nat.le_of_ble_eq_true rfl⟩) (by rfl) (by rfl) (by decide) (by decide) (fun r1 u H locs h hP hD hS => ?_)
    try dsimp only at h
    have hP := hP.sub (ws' := (w_JS_checkIndex ad )) [] rfl
    have hD := hD.sub (ws' := (w_JS_checkIndex ad )) [] (by decide) rfl
    refine lv_pop hx hb dJS_checkIndex_8 rfl ?_
    exact W.vret hx hb hr (fun t ht hW => ⟨⟨(()), rfl, h, by rw [ht]; exact hP, hD⟩, hS.F ht⟩) hS.2.2 dJS_checkIndex_9
  · refine va_gets hx hb hz hS hown (hts _ zw_552) (fun _ h9 => h9) dJS_checkIndex_2 ?_
    replace h : P_JP_checkIndex_r p0 p1 (fun (r1 : Int32) => post) := h
    refine zcall_i hP hD hS hA [] [] (va_runS (As := [.int p0, .int p1, .ref tq]) (rest := []) ⟨hx, hb, hml, hown, hts⟩ (c_JP_checkIndex_r l dC dI ad _ p0 p1 tq _ h) ⟨callB_of 3 hts (zgood zc_JP_checkIndex_r) rfl rfl rfl (hts _ zw_114) (hts _ zw_554) (by decide +kernel) ⟨Nat.le_of_ble_eq_true rfl, Nat.le_of_ble_eq_true rfl⟩, (hts _ zw_555)⟩ (zpreS hE hK hP hD hS hA [] [] (by rfl) (by rfl) (by decide)) rfl rfl hl.1 rfl (lv_room (Nat.le_of_ble_eq_true rfl)) dJS_checkIndex_5 ⟨Nat.le_of_ble_eq_true rfl, Nat.le_of_ble_eq_true rfl⟩) (by rfl) (by rfl) (by decide) (by decide) (fun r1 u H locs h hP hD hS => ?_)
    try dsimp only at h
    have hP := hP.sub (ws' := (w_JS_checkIndex ad )) [] rfl
    have hD := hD.sub (ws' := (w_JS_checkIndex ad )) [] (by decide) rfl
    refine lv_pop hx hb dJS_checkIndex_8 rfl ?_
    exact W.vret hx hb hr (fun t ht hW => ⟨⟨(()), rfl, h, by rw [ht]; exact hP, hD⟩, hS.F ht⟩) hS.2.2 dJS_checkIndex_9
abbrev yJL_charAt : MethodName := ⟨"java/lang/StringLatin1", "charAt", "([BI)C"⟩
abbrev cJL_charAt : ByteArray := prog_23_method_2_code
abbrev wsJL_charAt : List Cond := .code yJL_charAt cJL_charAt 2 (some .char) :: zT
set_option maxRecDepth 100000 in
theorem zc_JL_charAt : Cond.code yJL_charAt cJL_charAt 2 (some .char) ∈ zT := zm 548 (by rfl) (by rfl)
theorem dJL_charAt_0 : decode cJL_charAt 0 = .ok (.iload_n 1, 1) := by decide +kernel
theorem dJL_charAt_1 : decode cJL_charAt 1 = .ok (.aload_n 0, 1) := by decide +kernel
theorem dJL_charAt_2 : decode cJL_charAt 2 = .ok (.arraylength, 1) := by decide +kernel
theorem dJL_charAt_3 : decode cJL_charAt 3 = .ok (.invokestatic 9, 3) := by decide +kernel
theorem dJL_charAt_6 : decode cJL_charAt 6 = .ok (.aload_n 0, 1) := by decide +kernel
theorem dJL_charAt_7 : decode cJL_charAt 7 = .ok (.iload_n 1, 1) := by decide +kernel
theorem dJL_charAt_8 : decode cJL_charAt 8 = .ok (.baload, 1) := by decide +kernel
theorem dJL_charAt_9 : decode cJL_charAt 9 = .ok (.sipush 255, 3) := by decide +kernel
theorem dJL_charAt_12 : decode cJL_charAt 12 = .ok (.iand, 1) := by decide +kernel
theorem dJL_charAt_13 : decode cJL_charAt 13 = .ok (.i2c, 1) := by decide +kernel
theorem dJL_charAt_14 : decode cJL_charAt 14 = .ok (.ireturn, 1) := by decide +kernel
-- java/lang/StringLatin1.charAt([BI)C
abbrev w_JL_charAt (ad : Nat → Nat → Nat)    : va_W := []
def P_JL_charAt (p0 : Nat) (p1 : Int32) (post : Int32 → Prop) : Prop := p0 < zNS ∧ P_JS_checkIndex p1 (Int32.ofNat (zLen.getD p0 0)) (p0 < zNS ∧ vp_in p1 (zLen.getD p0 0) ∧ narrow .char (.int (((((zByt.getD p0 []).getD p1.toNatClampNeg 0) &&& 255).toUInt32 % 65536).toInt32)) = .int (((((zByt.getD p0 []).getD p1.toNatClampNeg 0) &&& 255).toUInt32 % 65536).toInt32) ∧ post (((((zByt.getD p0 []).getD p1.toNatClampNeg 0) &&& 255).toUInt32 % 65536).toInt32))
set_option maxHeartbeats 4000000 in
set_option maxRecDepth 100000 in
theorem c_JL_charAt (l : Launch) (dC : Nat → ClassId) (dI : Nat → Nat → Nat) (ad : Nat → Nat → Nat)   (sz : Nat) (p0 : Nat) (p1 : Int32) (post : Int32 → Prop) (h : P_JL_charAt p0 p1 post) : zMi l yJL_charAt wsJL_charAt { frames := 2, cells := 0, slots := 0, locals := 43 } (dC, dI) ad [.ref (ad 3 p0), .int p1] (w_JL_charAt ad ) [] sz (fun (r : Int32) (u : Unit) => post r) (fun (u : Unit) => (w_JL_charAt ad )) 0 0 := by
  refine va_MetF (cc := cJL_charAt) (maxL := 2) (ret := (some .char)) (by decide +kernel) rfl ?_
  intro p e s m args below meth c s₁ B hml hv
  obtain ⟨rfl, hsz, hP, hK, hD0, hE⟩ := hv
  have hx := B.exec
  have hb := B.bytes
  have hr := B.returns
  have hts0 := atoms_spec (ws := wsJL_charAt) B.pre
  have hts := fun w h => hts0 w (List.mem_cons_of_mem _ h)
  have hown : s.vm.findClass RJL = some m.cls := findClass_of_methodNamed B.named
  have hlocks := B.notSynchronized
  subst hsz
  have hD := hD0.self (sz := s.heap.size)
  generalize hAe : va_A (w_JL_charAt ad ) s.heap.size = A at hD hE ⊢
  have hA : ∀ q : Nat, s.heap.size ≤ q → A q := fun q h => by rw [← hAe]; exact Or.inr h
  have C0 := zC.mk hx hb hr hml hown hts hlocks hA
  have hS : va_S A s.heap s.heap [] := va_S.rf
  have hl := lv_entry ([.ref (ad 3 p0), .int p1]) (n := 2) (Nat.le_of_ble_eq_true rfl)
  rw [lg_entry_eq]
  generalize (lg_sl ([.ref (ad 3 p0), .int p1]) ++ List.replicate (2 - (lg_sl ([.ref (ad 3 p0), .int p1])).length) Slot.unset).toArray = ls at hl ⊢
  have hl : lv_has ls 2 [(0, .ref (ad 3 p0)), (1, .int p1)] := hl
  unfold P_JL_charAt at h
  refine lv_iload_n hx hb dJL_charAt_0 rfl (lv_at hl 1 rfl) ?_
  refine lv_aload_n hx hb dJL_charAt_1 rfl (lv_at hl 0 rfl) ?_
  obtain ⟨hn1, h⟩ := h
  refine va_tlen hx hb ((hE.str _ hn1).2.2.2) hS rfl dJL_charAt_2 ?_
  refine zcall_v hP hD hS hA [] [] (va_runS (As := [.int p1, .int (Int32.ofNat (zLen.getD p0 0))]) (rest := []) ⟨hx, hb, hml, hown, hts⟩ (c_JS_checkIndex l dC dI ad _ p1 (Int32.ofNat (zLen.getD p0 0)) _ h) ⟨callB_of 2 hts (zgood zc_JS_checkIndex) rfl rfl rfl (hts _ zw_112) (hts _ zw_549) (by decide +kernel) ⟨Nat.le_of_ble_eq_true rfl, Nat.le_of_ble_eq_true rfl⟩, (hts _ zw_550)⟩ (zpreS hE hK hP hD hS hA [] [] (by rfl) (by rfl) (by decide)) rfl rfl hl.1 rfl (lv_room (Nat.le_of_ble_eq_true rfl)) dJL_charAt_3 ⟨Nat.le_of_ble_eq_true rfl, Nat.le_of_ble_eq_true rfl⟩) (by rfl) (by rfl) (by decide) (by decide) (fun u H locs h hP hD hS => ?_)
  try dsimp only at h
  have hP := hP.sub (ws' := (w_JL_charAt ad )) [] rfl
  have hD := hD.sub (ws' := (w_JL_charAt ad )) [] (by decide) rfl
  refine lv_aload_n hx hb dJL_charAt_6 rfl (lv_at hl 0 rfl) ?_
  refine lv_iload_n hx hb dJL_charAt_7 rfl (lv_at hl 1 rfl) ?_
  obtain ⟨hn2, h⟩ := h
  obtain ⟨hn3, h⟩ := h
  refine va_tb hx hb ((hE.str _ hn2).2.2.2) hS hn3 rfl dJL_charAt_8 ?_
  refine lv_sipush (v := 255) hx hb dJL_charAt_9 (by decide) ?_
  refine lv_iand hx hb dJL_charAt_12 ?_
  refine lv_i2c hx hb dJL_charAt_13 rfl ?_
  obtain ⟨hn4, h⟩ := h
  exact W.zret (v := (((((zByt.getD p0 []).getD p1.toNatClampNeg 0) &&& 255).toUInt32 % 65536).toInt32)) hx hb hr hn4 (fun t ht hW => ⟨⟨(((((zByt.getD p0 []).getD p1.toNatClampNeg 0) &&& 255).toUInt32 % 65536).toInt32), (()), rfl, h, by rw [ht]; exact hP, hD⟩, hS.F ht⟩) hS.2.2 dJL_charAt_14
abbrev yJS_charAt : MethodName := ⟨"java/lang/String", "charAt", "(I)C"⟩
abbrev cJS_charAt : ByteArray := prog_22_method_56_code
abbrev wsJS_charAt : List Cond := .code yJS_charAt cJS_charAt 2 (some .char) :: zT
set_option maxRecDepth 100000 in
theorem zc_JS_charAt : Cond.code yJS_charAt cJS_charAt 2 (some .char) ∈ zT := zm 541 (by rfl) (by rfl)
theorem dJS_charAt_0 : decode cJS_charAt 0 = .ok (.aload_n 0, 1) := by decide +kernel
theorem dJS_charAt_1 : decode cJS_charAt 1 = .ok (.invokevirtual 492, 3) := by decide +kernel
theorem dJS_charAt_4 : decode cJS_charAt 4 = .ok (.ifCond .eq 12, 3) := by decide +kernel
theorem dJS_charAt_7 : decode cJS_charAt 7 = .ok (.aload_n 0, 1) := by decide +kernel
theorem dJS_charAt_8 : decode cJS_charAt 8 = .ok (.getfield 9, 3) := by decide +kernel
theorem dJS_charAt_11 : decode cJS_charAt 11 = .ok (.iload_n 1, 1) := by decide +kernel
theorem dJS_charAt_12 : decode cJS_charAt 12 = .ok (.invokestatic 495, 3) := by decide +kernel
theorem dJS_charAt_15 : decode cJS_charAt 15 = .ok (.ireturn, 1) := by decide +kernel
theorem dJS_charAt_16 : decode cJS_charAt 16 = .ok (.aload_n 0, 1) := by decide +kernel
theorem dJS_charAt_17 : decode cJS_charAt 17 = .ok (.getfield 9, 3) := by decide +kernel
theorem dJS_charAt_20 : decode cJS_charAt 20 = .ok (.iload_n 1, 1) := by decide +kernel
-- java/lang/String.charAt(I)C
abbrev w_JS_charAt (ad : Nat → Nat → Nat)    : va_W := []
def P_JS_charAt (p0 : Nat) (p1 : Int32) (post : Int32 → Prop) : Prop := p0 < zNS ∧ P_JS_isLatin1 p0 (fun (r1 : Int32) => ((r1 = 0 → p0 < zNS ∧ False) ∧ (¬ r1 = 0 → p0 < zNS ∧ P_JL_charAt p0 p1 (fun (r6 : Int32) => narrow .char (.int r6) = .int r6 ∧ post r6))))
set_option maxHeartbeats 4000000 in
set_option maxRecDepth 100000 in
theorem c_JS_charAt (l : Launch) (dC : Nat → ClassId) (dI : Nat → Nat → Nat) (ad : Nat → Nat → Nat)   (sz : Nat) (p0 : Nat) (p1 : Int32) (post : Int32 → Prop) (h : P_JS_charAt p0 p1 post) : zMi l yJS_charAt wsJS_charAt { frames := 3, cells := 0, slots := 0, locals := 64 } (dC, dI) ad [.ref (ad 2 p0), .int p1] (w_JS_charAt ad ) [] sz (fun (r : Int32) (u : Unit) => post r) (fun (u : Unit) => (w_JS_charAt ad )) 0 0 := by
  refine va_MetF (cc := cJS_charAt) (maxL := 2) (ret := (some .char)) (by decide +kernel) rfl ?_
  intro p e s m args below meth c s₁ B hml hv
  obtain ⟨rfl, hsz, hP, hK, hD0, hE⟩ := hv
  have hx := B.exec
  have hb := B.bytes
  have hr := B.returns
  have hts0 := atoms_spec (ws := wsJS_charAt) B.pre
  have hts := fun w h => hts0 w (List.mem_cons_of_mem _ h)
  have hown : s.vm.findClass RJS = some m.cls := findClass_of_methodNamed B.named
  have hlocks := B.notSynchronized
  subst hsz
  have hD := hD0.self (sz := s.heap.size)
  generalize hAe : va_A (w_JS_charAt ad ) s.heap.size = A at hD hE ⊢
  have hA : ∀ q : Nat, s.heap.size ≤ q → A q := fun q h => by rw [← hAe]; exact Or.inr h
  have C0 := zC.mk hx hb hr hml hown hts hlocks hA
  have hS : va_S A s.heap s.heap [] := va_S.rf
  have hl := lv_entry ([.ref (ad 2 p0), .int p1]) (n := 2) (Nat.le_of_ble_eq_true rfl)
  rw [lg_entry_eq]
  generalize (lg_sl ([.ref (ad 2 p0), .int p1]) ++ List.replicate (2 - (lg_sl ([.ref (ad 2 p0), .int p1])).length) Slot.unset).toArray = ls at hl ⊢
  have hl : lv_has ls 2 [(0, .ref (ad 2 p0)), (1, .int p1)] := hl
  unfold P_JS_charAt at h
  refine lv_aload_n hx hb dJS_charAt_0 rfl (lv_at hl 0 rfl) ?_
  obtain ⟨hn2, h⟩ := h
  refine zcall_i hP hD hS hA [] [] (va_runV (As := []) (rest := []) ⟨hx, hb, hml, hown, hts⟩ (c_JS_isLatin1 l dC dI ad _ p0 _ h) ⟨callB_of 0 hts (zgood zc_JS_isLatin1) rfl rfl rfl (hts _ zw_112) (hts _ zw_542) (by decide +kernel) ⟨Nat.le_of_ble_eq_true rfl, Nat.le_of_ble_eq_true rfl⟩, (hts _ zw_543), (hts _ zw_544)⟩ (zpreC hE hK hP hD hS hA [] [] (by rfl) (by rfl) (by decide) (zS_recv hE.str hn2 hS)) rfl rfl hl.1 rfl (lv_room (Nat.le_of_ble_eq_true rfl)) dJS_charAt_1 ⟨Nat.le_of_ble_eq_true rfl, Nat.le_of_ble_eq_true rfl⟩) (by rfl) (by rfl) (by decide) (by decide) (fun r1 u H locs h hP hD hS => ?_)
  try dsimp only at h
  have hP := hP.sub (ws' := (w_JS_charAt ad )) [] rfl
  have hD := hD.sub (ws' := (w_JS_charAt ad )) [] (by decide) rfl
  refine lv_if_eq (tgt := 16) hx hb dJS_charAt_4 (by decide) ?_ ?_
  · intro c3
    replace h := h.1 c3
    refine lv_aload_n hx hb dJS_charAt_16 rfl (lv_at hl 0 rfl) ?_
    obtain ⟨hn4, h⟩ := h
    refine vk_getf hx hb ((hE.str _ hn4).2.2.1) hS hown (hts _ zw_1331) (fun _ h9 => h9) dJS_charAt_17 ?_
    refine lv_iload_n hx hb dJS_charAt_20 rfl (lv_at hl 1 rfl) ?_
    exact False.elim h
  · intro c3
    replace h := h.2 c3
    refine lv_aload_n hx hb dJS_charAt_7 rfl (lv_at hl 0 rfl) ?_
    obtain ⟨hn5, h⟩ := h
    refine vk_getf hx hb ((hE.str _ hn5).2.2.1) hS hown (hts _ zw_1331) (fun _ h9 => h9) dJS_charAt_8 ?_
    refine lv_iload_n hx hb dJS_charAt_11 rfl (lv_at hl 1 rfl) ?_
    refine zcall_i hP hD hS hA [] [] (va_runS (As := [.ref (ad 3 p0), .int p1]) (rest := []) ⟨hx, hb, hml, hown, hts⟩ (c_JL_charAt l dC dI ad _ p0 p1 _ h) ⟨callB_of 2 hts (zgood zc_JL_charAt) rfl rfl rfl (hts _ zw_113) (hts _ zw_546) (by decide +kernel) ⟨Nat.le_of_ble_eq_true rfl, Nat.le_of_ble_eq_true rfl⟩, (hts _ zw_547)⟩ (zpreS hE hK hP hD hS hA [] [] (by rfl) (by rfl) (by decide)) rfl rfl hl.1 rfl (lv_room (Nat.le_of_ble_eq_true rfl)) dJS_charAt_12 ⟨Nat.le_of_ble_eq_true rfl, Nat.le_of_ble_eq_true rfl⟩) (by rfl) (by rfl) (by decide) (by decide) (fun r6 u H locs h hP hD hS => ?_)
    try dsimp only at h
    have hP := hP.sub (ws' := (w_JS_charAt ad )) [] rfl
    have hD := hD.sub (ws' := (w_JS_charAt ad )) [] (by decide) rfl
    obtain ⟨hn7, h⟩ := h
    exact W.zret (v := r6) hx hb hr hn7 (fun t ht hW => ⟨⟨r6, (()), rfl, h, by rw [ht]; exact hP, hD⟩, hS.F ht⟩) hS.2.2 dJS_charAt_15
abbrev yWo_are : MethodName := ⟨"FootprintRules$Words", "are", "(Ljava/lang/String;)Z"⟩
abbrev cWo_are : ByteArray := prog_12_method_9_code
abbrev wsWo_are : List Cond := .code yWo_are cWo_are 3 (some .boolean) :: zT
set_option maxRecDepth 100000 in
theorem zc_Wo_are : Cond.code yWo_are cWo_are 3 (some .boolean) ∈ zT := zm 519 (by rfl) (by rfl)
theorem dWo_are_0 : decode cWo_are 0 = .ok (.aload_n 0, 1) := by decide +kernel
theorem dWo_are_1 : decode cWo_are 1 = .ok (.invokevirtual 32, 3) := by decide +kernel
theorem dWo_are_4 : decode cWo_are 4 = .ok (.aload_n 1, 1) := by decide +kernel
theorem dWo_are_5 : decode cWo_are 5 = .ok (.invokevirtual 36, 3) := by decide +kernel
theorem dWo_are_8 : decode cWo_are 8 = .ok (.if_icmp .eq 5, 3) := by decide +kernel
theorem dWo_are_11 : decode cWo_are 11 = .ok (.iconst 0, 1) := by decide +kernel
theorem dWo_are_12 : decode cWo_are 12 = .ok (.ireturn, 1) := by decide +kernel
theorem dWo_are_13 : decode cWo_are 13 = .ok (.iconst 0, 1) := by decide +kernel
theorem dWo_are_14 : decode cWo_are 14 = .ok (.istore_n 2, 1) := by decide +kernel
theorem dWo_are_15 : decode cWo_are 15 = .ok (.iload_n 2, 1) := by decide +kernel
theorem dWo_are_16 : decode cWo_are 16 = .ok (.aload_n 1, 1) := by decide +kernel
theorem dWo_are_17 : decode cWo_are 17 = .ok (.invokevirtual 36, 3) := by decide +kernel
theorem dWo_are_20 : decode cWo_are 20 = .ok (.if_icmp .ge 24, 3) := by decide +kernel
theorem dWo_are_23 : decode cWo_are 23 = .ok (.aload_n 0, 1) := by decide +kernel
theorem dWo_are_24 : decode cWo_are 24 = .ok (.iload_n 2, 1) := by decide +kernel
theorem dWo_are_25 : decode cWo_are 25 = .ok (.invokevirtual 40, 3) := by decide +kernel
theorem dWo_are_28 : decode cWo_are 28 = .ok (.aload_n 1, 1) := by decide +kernel
theorem dWo_are_29 : decode cWo_are 29 = .ok (.iload_n 2, 1) := by decide +kernel
theorem dWo_are_30 : decode cWo_are 30 = .ok (.invokevirtual 44, 3) := by decide +kernel
theorem dWo_are_33 : decode cWo_are 33 = .ok (.if_icmp .eq 5, 3) := by decide +kernel
theorem dWo_are_36 : decode cWo_are 36 = .ok (.iconst 0, 1) := by decide +kernel
theorem dWo_are_37 : decode cWo_are 37 = .ok (.ireturn, 1) := by decide +kernel
theorem dWo_are_38 : decode cWo_are 38 = .ok (.iinc 2 1, 3) := by decide +kernel
theorem dWo_are_41 : decode cWo_are 41 = .ok (.goto (-26), 3) := by decide +kernel
theorem dWo_are_44 : decode cWo_are 44 = .ok (.iconst 1, 1) := by decide +kernel
theorem dWo_are_45 : decode cWo_are 45 = .ok (.ireturn, 1) := by decide +kernel
-- FootprintRules$Words.are(Ljava/lang/String;)Z
abbrev w_Wo_are (ad : Nat → Nat → Nat) (a_this : Nat) (a_units : Nat) (k_units : ClassId) (v_this_length : Int32) (v_this_start : Int32) (v_this_end : Int32) (v_this_place : Int32) (v_units : Nat → Int32) : va_W := [(a_this, .inr (0, [.ref a_units, .int v_this_length, .int v_this_start, .int v_this_end, .int v_this_place])), (a_units, .inl (k_units, 600, .inl v_units))]
def P_Wo_are_15 (p1 : Nat) (v_this_start : Int32) (v_units : Nat → Int32) (post : Int32 → Prop) : Nat → Int32 → Prop
  | 0, _ => False
  | n + 1, y2 => p1 < zNS ∧ P_JS_length p1 (fun (r1 : Int32) => ((r1 ≤ y2 → post 1) ∧ (¬ r1 ≤ y2 → P_Wo_at y2 v_this_start v_units (fun (r4 : Int32) => p1 < zNS ∧ P_JS_charAt p1 y2 (fun (r5 : Int32) => ((r4 = r5 → ∀ x8 : Int32, x8 = y2 + 1 → P_Wo_are_15 p1 v_this_start v_units post n x8) ∧ (¬ r4 = r5 → post 0)))))))
set_option maxHeartbeats 4000000 in
set_option maxRecDepth 100000 in
theorem w_Wo_are_15 (l : Launch) {p : Program} {e : Env} {s : State} {m : MethodId} {args : Array Value} {below : List Frame} {meth : Method} {c : Code} {dC : Nat → ClassId} {dI : Nat → Nat → Nat} {ad : Nat → Nat → Nat} {A : Nat → Prop} (C0 : zC p s m args meth c cWo_are 3 RWo zT (some .boolean) A) (hE : zE ad A s) (a_this : Nat) (a_units : Nat) (k_units : ClassId) (p1 : Nat) (v_this_length : Int32) (v_this_start : Int32) (v_this_end : Int32) (v_this_place : Int32) (v_units : Nat → Int32) (post : Int32 → Prop) (hK : va_K (dC, dI) vwCl [(k_units, .char)] s) : ∀ (n : Nat), ∀ (y2 : Int32) (H : Heap) (locs : List Loc), P_Wo_are_15 p1 v_this_start v_units post n y2 → va_P (dC, dI) vwCl (w_Wo_are ad a_this a_units k_units v_this_length v_this_start v_this_end v_this_place v_units) H → va_D A (w_Wo_are ad a_this a_units k_units v_this_length v_this_start v_this_end v_this_place v_units) → va_S A s.heap H locs → ∀ ls : Array Slot, lv_has ls 3 [(0, .ref a_this), (1, .ref (ad 2 p1)), (2, .int y2)] → W p l e (headSpec wsWo_are { frames := 4, cells := 0, slots := 0, locals := 85 }).room s m args below meth c H locs 0 0 (MQ below (va_Qi (fun (r : Int32) (u : Unit) => post r) (zB (dC, dI) A (fun (u : Unit) => (w_Wo_are ad a_this a_units k_units v_this_length v_this_start v_this_end v_this_place v_units))) A) args s 0 0 A) (F0 m 15 ls []) := by
  obtain ⟨hx, hb, hr, hml, hown, hts, hlocks, hA⟩ := id C0
  intro n
  induction n with
  | zero =>
    intro y2 H locs h
    exact False.elim h
  | succ n ih =>
    intro y2 H locs h hP hD hS ls hl
    rw [P_Wo_are_15] at h
    refine lv_iload_n hx hb dWo_are_15 rfl (lv_at hl 2 rfl) ?_
    refine lv_aload_n hx hb dWo_are_16 rfl (lv_at hl 1 rfl) ?_
    obtain ⟨hn2, h⟩ := h
    refine zcall_i hP hD hS hA [] [0, 1] (va_runV (As := []) (rest := [.int y2]) ⟨hx, hb, hml, hown, hts⟩ (c_JS_length l dC dI ad _ p1 _ h) ⟨callB_of 0 hts (zgood zc_JS_length) rfl rfl rfl (hts _ zw_112) (hts _ zw_524) (by decide +kernel) ⟨Nat.le_of_ble_eq_true rfl, Nat.le_of_ble_eq_true rfl⟩, (hts _ zw_525), (hts _ zw_526)⟩ (zpreC hE hK hP hD hS hA [] [] (by rfl) (by rfl) (by decide) (zS_recv hE.str hn2 hS)) rfl rfl hl.1 rfl (lv_room (Nat.le_of_ble_eq_true rfl)) dWo_are_17 ⟨Nat.le_of_ble_eq_true rfl, Nat.le_of_ble_eq_true rfl⟩) (by rfl) (by rfl) (by decide) (by decide) (fun r1 u H locs h hP hD hS => ?_)
    try dsimp only at h
    have hP := hP.sub (ws' := (w_Wo_are ad a_this a_units k_units v_this_length v_this_start v_this_end v_this_place v_units)) [0, 1] rfl
    have hD := hD.sub (ws' := (w_Wo_are ad a_this a_units k_units v_this_length v_this_start v_this_end v_this_place v_units)) [0, 1] (by decide) rfl
    refine lv_icmp_ge (tgt := 44) hx hb dWo_are_20 (by decide) ?_ ?_
    · intro c3
      replace h := h.1 c3
      refine lv_iconst (v := 1) hx hb dWo_are_44 (by decide) ?_
      exact W.zret (v := 1) hx hb hr rfl (fun t ht hW => ⟨⟨1, (()), rfl, h, by rw [ht]; exact hP, hD⟩, hS.F ht⟩) hS.2.2 dWo_are_45
    · intro c3
      replace h := h.2 c3
      refine lv_aload_n hx hb dWo_are_23 rfl (lv_at hl 0 rfl) ?_
      refine lv_iload_n hx hb dWo_are_24 rfl (lv_at hl 2 rfl) ?_
      refine zcall_i hP hD hS hA [0, 1] [] (va_runV (As := [.int y2]) (rest := []) ⟨hx, hb, hml, hown, hts⟩ (c_Wo_at l dC dI ad a_this a_units k_units _ y2 v_this_length v_this_start v_this_end v_this_place v_units _ h) ⟨callB_of 1 hts (zgood zc_Wo_at) rfl rfl rfl (hts _ zw_97) (hts _ zw_534) (by decide +kernel) ⟨Nat.le_of_ble_eq_true rfl, Nat.le_of_ble_eq_true rfl⟩, (hts _ zw_536), (hts _ zw_12)⟩ (zpreV hE hK hP hD hS hA [0, 1] [0] (by rfl) (by rfl) (by decide) (ci := 0) (q0 := 0) rfl (by rfl)) rfl rfl hl.1 rfl (lv_room (Nat.le_of_ble_eq_true rfl)) dWo_are_25 ⟨Nat.le_of_ble_eq_true rfl, Nat.le_of_ble_eq_true rfl⟩) (by rfl) (by rfl) (by decide) (by decide) (fun r4 u H locs h hP hD hS => ?_)
      try dsimp only at h
      have hP := hP.sub (ws' := (w_Wo_are ad a_this a_units k_units v_this_length v_this_start v_this_end v_this_place v_units)) [0, 1] rfl
      have hD := hD.sub (ws' := (w_Wo_are ad a_this a_units k_units v_this_length v_this_start v_this_end v_this_place v_units)) [0, 1] (by decide) rfl
      refine lv_aload_n hx hb dWo_are_28 rfl (lv_at hl 1 rfl) ?_
      refine lv_iload_n hx hb dWo_are_29 rfl (lv_at hl 2 rfl) ?_
      obtain ⟨hn6, h⟩ := h
      refine zcall_i hP hD hS hA [] [0, 1] (va_runV (As := [.int y2]) (rest := [.int r4]) ⟨hx, hb, hml, hown, hts⟩ (c_JS_charAt l dC dI ad _ p1 y2 _ h) ⟨callB_of 1 hts (zgood zc_JS_charAt) rfl rfl rfl (hts _ zw_112) (hts _ zw_538) (by decide +kernel) ⟨Nat.le_of_ble_eq_true rfl, Nat.le_of_ble_eq_true rfl⟩, (hts _ zw_539), (hts _ zw_540)⟩ (zpreC hE hK hP hD hS hA [] [] (by rfl) (by rfl) (by decide) (zS_recv hE.str hn6 hS)) rfl rfl hl.1 rfl (lv_room (Nat.le_of_ble_eq_true rfl)) dWo_are_30 ⟨Nat.le_of_ble_eq_true rfl, Nat.le_of_ble_eq_true rfl⟩) (by rfl) (by rfl) (by decide) (by decide) (fun r5 u H locs h hP hD hS => ?_)
      try dsimp only at h
      have hP := hP.sub (ws' := (w_Wo_are ad a_this a_units k_units v_this_length v_this_start v_this_end v_this_place v_units)) [0, 1] rfl
      have hD := hD.sub (ws' := (w_Wo_are ad a_this a_units k_units v_this_length v_this_start v_this_end v_this_place v_units)) [0, 1] (by decide) rfl
      refine lv_icmp_eq (tgt := 38) hx hb dWo_are_33 (by decide) ?_ ?_
      · intro c7
        replace h := h.1 c7
        obtain ⟨x8, ex8⟩ : ∃ y : Int32, y = y2 + 1 := ⟨_, rfl⟩
        replace h := h x8 ex8
        refine lv_iinc (v := x8) (lv' := [(2, .int x8), (0, .ref a_this), (1, .ref (ad 2 p1))]) hx hb dWo_are_38 hl (k := 2) rfl (by rw [ex8]; rfl) (by decide) rfl (fun ls hl => ?_)
        refine lv_goto (tgt := 15) hx hb dWo_are_41 (by decide) ?_
        exact ih x8 _ _ h hP hD hS ls (lv_sub hl [1, 2, 0] rfl)
      · intro c7
        replace h := h.2 c7
        refine lv_iconst (v := 0) hx hb dWo_are_36 (by decide) ?_
        exact W.zret (v := 0) hx hb hr rfl (fun t ht hW => ⟨⟨0, (()), rfl, h, by rw [ht]; exact hP, hD⟩, hS.F ht⟩) hS.2.2 dWo_are_37
def P_Wo_are (p1 : Nat) (v_this_start : Int32) (v_this_end : Int32) (v_units : Nat → Int32) (post : Int32 → Prop) : Prop := P_Wo_size v_this_start v_this_end (fun (r1 : Int32) => p1 < zNS ∧ P_JS_length p1 (fun (r2 : Int32) => ((r1 = r2 → ∃ n5, P_Wo_are_15 p1 v_this_start v_units post n5 0) ∧ (¬ r1 = r2 → post 0))))
set_option maxHeartbeats 4000000 in
set_option maxRecDepth 100000 in
theorem c_Wo_are (l : Launch) (dC : Nat → ClassId) (dI : Nat → Nat → Nat) (ad : Nat → Nat → Nat) (a_this : Nat) (a_units : Nat) (k_units : ClassId) (sz : Nat) (p1 : Nat) (v_this_length : Int32) (v_this_start : Int32) (v_this_end : Int32) (v_this_place : Int32) (v_units : Nat → Int32) (post : Int32 → Prop) (h : P_Wo_are p1 v_this_start v_this_end v_units post) : zMi l yWo_are wsWo_are { frames := 4, cells := 0, slots := 0, locals := 85 } (dC, dI) ad [.ref a_this, .ref (ad 2 p1)] (w_Wo_are ad a_this a_units k_units v_this_length v_this_start v_this_end v_this_place v_units) [(k_units, .char)] sz (fun (r : Int32) (u : Unit) => post r) (fun (u : Unit) => (w_Wo_are ad a_this a_units k_units v_this_length v_this_start v_this_end v_this_place v_units)) 0 0 := by
  refine Met.ofW (cc := cWo_are) (maxL := 3) (ret := (some .boolean)) (by decide +kernel) rfl ?_
  intro p e s m args below meth c s₁ B hml hv
  obtain ⟨rfl, hsz, hP, hK, hD0, hE⟩ := hv
  have hx := B.exec
  have hb := B.bytes
  have hr := B.returns
  have hts0 := atoms_spec (ws := wsWo_are) B.pre
  have hts := fun w h => hts0 w (List.mem_cons_of_mem _ h)
  have hown : s.vm.findClass RWo = some m.cls := findClass_of_methodNamed B.named
  have hlocks := B.notSynchronized
  subst hsz
  have hD := hD0.self (sz := s.heap.size)
  generalize hAe : va_A (w_Wo_are ad a_this a_units k_units v_this_length v_this_start v_this_end v_this_place v_units) s.heap.size = A at hD hE ⊢
  have hA : ∀ q : Nat, s.heap.size ≤ q → A q := fun q h => by rw [← hAe]; exact Or.inr h
  have C0 := zC.mk hx hb hr hml hown hts hlocks hA
  have hS : va_S A s.heap s.heap [] := va_S.rf
  have hl := lv_entry ([.ref a_this, .ref (ad 2 p1)]) (n := 3) (Nat.le_of_ble_eq_true rfl)
  rw [lg_entry_eq]
  generalize (lg_sl ([.ref a_this, .ref (ad 2 p1)]) ++ List.replicate (3 - (lg_sl ([.ref a_this, .ref (ad 2 p1)])).length) Slot.unset).toArray = ls at hl ⊢
  have hl : lv_has ls 3 [(0, .ref a_this), (1, .ref (ad 2 p1))] := hl
  unfold P_Wo_are at h
  refine lv_aload_n hx hb dWo_are_0 rfl (lv_at hl 0 rfl) ?_
  refine zcall_i hP hD hS hA [0] [1] (va_runV (As := []) (rest := []) ⟨hx, hb, hml, hown, hts⟩ (c_Wo_size l dC dI ad a_this a_units _ v_this_length v_this_start v_this_end v_this_place _ h) ⟨callB_of 0 hts (zgood zc_Wo_size) rfl rfl rfl (hts _ zw_97) (hts _ zw_520) (by decide +kernel) ⟨Nat.le_of_ble_eq_true rfl, Nat.le_of_ble_eq_true rfl⟩, (hts _ zw_522), (hts _ zw_11)⟩ (zpreV hE hK hP hD hS hA [0] [] (by rfl) (by rfl) (by decide) (ci := 0) (q0 := 0) rfl (by rfl)) rfl rfl hl.1 rfl (lv_room (Nat.le_of_ble_eq_true rfl)) dWo_are_1 ⟨Nat.le_of_ble_eq_true rfl, Nat.le_of_ble_eq_true rfl⟩) (by rfl) (by rfl) (by decide) (by decide) (fun r1 u H locs h hP hD hS => ?_)
  try dsimp only at h
  have hP := hP.sub (ws' := (w_Wo_are ad a_this a_units k_units v_this_length v_this_start v_this_end v_this_place v_units)) [1, 0] rfl
  have hD := hD.sub (ws' := (w_Wo_are ad a_this a_units k_units v_this_length v_this_start v_this_end v_this_place v_units)) [1, 0] (by decide) rfl
  refine lv_aload_n hx hb dWo_are_4 rfl (lv_at hl 1 rfl) ?_
  obtain ⟨hn3, h⟩ := h
  refine zcall_i hP hD hS hA [] [0, 1] (va_runV (As := []) (rest := [.int r1]) ⟨hx, hb, hml, hown, hts⟩ (c_JS_length l dC dI ad _ p1 _ h) ⟨callB_of 0 hts (zgood zc_JS_length) rfl rfl rfl (hts _ zw_112) (hts _ zw_524) (by decide +kernel) ⟨Nat.le_of_ble_eq_true rfl, Nat.le_of_ble_eq_true rfl⟩, (hts _ zw_525), (hts _ zw_526)⟩ (zpreC hE hK hP hD hS hA [] [] (by rfl) (by rfl) (by decide) (zS_recv hE.str hn3 hS)) rfl rfl hl.1 rfl (lv_room (Nat.le_of_ble_eq_true rfl)) dWo_are_5 ⟨Nat.le_of_ble_eq_true rfl, Nat.le_of_ble_eq_true rfl⟩) (by rfl) (by rfl) (by decide) (by decide) (fun r2 u H locs h hP hD hS => ?_)
  try dsimp only at h
  have hP := hP.sub (ws' := (w_Wo_are ad a_this a_units k_units v_this_length v_this_start v_this_end v_this_place v_units)) [0, 1] rfl
  have hD := hD.sub (ws' := (w_Wo_are ad a_this a_units k_units v_this_length v_this_start v_this_end v_this_place v_units)) [0, 1] (by decide) rfl
  refine lv_icmp_eq (tgt := 13) hx hb dWo_are_8 (by decide) ?_ ?_
  · intro c4
    replace h := h.1 c4
    refine lv_iconst (v := 0) hx hb dWo_are_13 (by decide) ?_
    refine lv_istore_n (lv' := [(2, .int 0), (0, .ref a_this), (1, .ref (ad 2 p1))]) hx hb dWo_are_14 rfl hl (by decide) rfl (fun ls hl => ?_)
    obtain ⟨n5, h⟩ := h
    exact w_Wo_are_15 l C0 hE a_this a_units k_units p1 v_this_length v_this_start v_this_end v_this_place v_units post hK n5 0 _ _ h hP hD hS ls (lv_sub hl [1, 2, 0] rfl)
  · intro c4
    replace h := h.2 c4
    refine lv_iconst (v := 0) hx hb dWo_are_11 (by decide) ?_
    exact W.zret (v := 0) hx hb hr rfl (fun t ht hW => ⟨⟨0, (()), rfl, h, by rw [ht]; exact hP, hD⟩, hS.F ht⟩) hS.2.2 dWo_are_12
abbrev yFa_begin : MethodName := ⟨"FootprintRules$Family", "begin", "(LFootprintRules$Kind;)V"⟩
abbrev cFa_begin : ByteArray := prog_3_method_2_code
abbrev wsFa_begin : List Cond := .code yFa_begin cFa_begin 3 none :: zT
set_option maxRecDepth 100000 in
theorem zc_Fa_begin : Cond.code yFa_begin cFa_begin 3 none ∈ zT := zm 579 (by rfl) (by rfl)
theorem dFa_begin_0 : decode cFa_begin 0 = .ok (.aload_n 0, 1) := by decide +kernel
theorem dFa_begin_1 : decode cFa_begin 1 = .ok (.aload_n 1, 1) := by decide +kernel
theorem dFa_begin_2 : decode cFa_begin 2 = .ok (.putfield 25, 3) := by decide +kernel
theorem dFa_begin_5 : decode cFa_begin 5 = .ok (.iconst 0, 1) := by decide +kernel
theorem dFa_begin_6 : decode cFa_begin 6 = .ok (.istore_n 2, 1) := by decide +kernel
theorem dFa_begin_7 : decode cFa_begin 7 = .ok (.iload_n 2, 1) := by decide +kernel
theorem dFa_begin_8 : decode cFa_begin 8 = .ok (.aload_n 0, 1) := by decide +kernel
theorem dFa_begin_9 : decode cFa_begin 9 = .ok (.getfield 9, 3) := by decide +kernel
theorem dFa_begin_12 : decode cFa_begin 12 = .ok (.arraylength, 1) := by decide +kernel
theorem dFa_begin_13 : decode cFa_begin 13 = .ok (.if_icmp .ge 16, 3) := by decide +kernel
theorem dFa_begin_16 : decode cFa_begin 16 = .ok (.aload_n 0, 1) := by decide +kernel
theorem dFa_begin_17 : decode cFa_begin 17 = .ok (.getfield 9, 3) := by decide +kernel
theorem dFa_begin_20 : decode cFa_begin 20 = .ok (.iload_n 2, 1) := by decide +kernel
theorem dFa_begin_21 : decode cFa_begin 21 = .ok (.iconst 0, 1) := by decide +kernel
theorem dFa_begin_22 : decode cFa_begin 22 = .ok (.iastore, 1) := by decide +kernel
theorem dFa_begin_23 : decode cFa_begin 23 = .ok (.iinc 2 1, 3) := by decide +kernel
theorem dFa_begin_26 : decode cFa_begin 26 = .ok (.goto (-19), 3) := by decide +kernel
theorem dFa_begin_29 : decode cFa_begin 29 = .ok (.aload_n 0, 1) := by decide +kernel
theorem dFa_begin_30 : decode cFa_begin 30 = .ok (.getstatic 28, 3) := by decide +kernel
theorem dFa_begin_33 : decode cFa_begin 33 = .ok (.iconst 0, 1) := by decide +kernel
theorem dFa_begin_34 : decode cFa_begin 34 = .ok (.iconst 1, 1) := by decide +kernel
theorem dFa_begin_35 : decode cFa_begin 35 = .ok (.invokevirtual 34, 3) := by decide +kernel
theorem dFa_begin_38 : decode cFa_begin 38 = .ok (.aload_n 0, 1) := by decide +kernel
theorem dFa_begin_39 : decode cFa_begin 39 = .ok (.iconst 0, 1) := by decide +kernel
theorem dFa_begin_40 : decode cFa_begin 40 = .ok (.putfield 38, 3) := by decide +kernel
theorem dFa_begin_43 : decode cFa_begin 43 = .ok (.iconst 0, 1) := by decide +kernel
theorem dFa_begin_44 : decode cFa_begin 44 = .ok (.istore_n 2, 1) := by decide +kernel
theorem dFa_begin_45 : decode cFa_begin 45 = .ok (.iload_n 2, 1) := by decide +kernel
theorem dFa_begin_46 : decode cFa_begin 46 = .ok (.aload_n 1, 1) := by decide +kernel
theorem dFa_begin_47 : decode cFa_begin 47 = .ok (.getfield 42, 3) := by decide +kernel
theorem dFa_begin_50 : decode cFa_begin 50 = .ok (.invokevirtual 46, 3) := by decide +kernel
theorem dFa_begin_53 : decode cFa_begin 53 = .ok (.if_icmp .ge 21, 3) := by decide +kernel
theorem dFa_begin_56 : decode cFa_begin 56 = .ok (.aload_n 0, 1) := by decide +kernel
theorem dFa_begin_57 : decode cFa_begin 57 = .ok (.aload_n 1, 1) := by decide +kernel
theorem dFa_begin_58 : decode cFa_begin 58 = .ok (.getfield 42, 3) := by decide +kernel
theorem dFa_begin_61 : decode cFa_begin 61 = .ok (.iload_n 2, 1) := by decide +kernel
theorem dFa_begin_62 : decode cFa_begin 62 = .ok (.invokevirtual 52, 3) := by decide +kernel
theorem dFa_begin_65 : decode cFa_begin 65 = .ok (.invokevirtual 56, 3) := by decide +kernel
theorem dFa_begin_68 : decode cFa_begin 68 = .ok (.iinc 2 1, 3) := by decide +kernel
theorem dFa_begin_71 : decode cFa_begin 71 = .ok (.goto (-26), 3) := by decide +kernel
theorem dFa_begin_74 : decode cFa_begin 74 = .ok (.return_, 1) := by decide +kernel
-- FootprintRules$Family.begin(LFootprintRules$Kind;)V
abbrev w_Fa_begin (ad : Nat → Nat → Nat) (a_this : Nat) (a_values : Nat) (a_letters : Nat) (k_values : ClassId) (k_letters : ClassId) (v_this_letterCount : Int32) (v_this_kind : Nat) (v_values : Nat → Int32) (v_letters : Nat → Int32) : va_W := [(a_this, .inr (2, [.ref a_values, .ref a_letters, .int v_this_letterCount, .ref (ad 0 v_this_kind)])), (a_values, .inl (k_values, 18, .inl v_values)), (a_letters, .inl (k_letters, 4, .inl v_letters))]
def P_Fa_begin_45 (p1 : Nat) (post : Int32 → Nat → (Nat → Int32) → (Nat → Int32) → Prop) : Nat → Int32 → Int32 → Nat → (Nat → Int32) → (Nat → Int32) → Prop
  | 0, _, _, _, _, _ => False
  | n + 1, y2, u_this_letterCount, u_this_kind, u_values, u_letters => p1 < 5 ∧ (zKind_capitals.getD p1 0) < zNS ∧ P_JS_length (zKind_capitals.getD p1 0) (fun (r2 : Int32) => ((r2 ≤ y2 → post u_this_letterCount u_this_kind u_values u_letters) ∧ (¬ r2 ≤ y2 → p1 < 5 ∧ (zKind_capitals.getD p1 0) < zNS ∧ P_JS_charAt (zKind_capitals.getD p1 0) y2 (fun (r6 : Int32) => P_Fa_addLetter r6 u_this_letterCount u_letters (fun (u8 : Int32) (u9 : Nat → Int32) => ∀ x10 : Int32, x10 = y2 + 1 → P_Fa_begin_45 p1 post n x10 u8 u_this_kind u_values u9)))))
set_option maxHeartbeats 4000000 in
set_option maxRecDepth 100000 in
theorem w_Fa_begin_45 (l : Launch) {p : Program} {e : Env} {s : State} {m : MethodId} {args : Array Value} {below : List Frame} {meth : Method} {c : Code} {dC : Nat → ClassId} {dI : Nat → Nat → Nat} {ad : Nat → Nat → Nat} {A : Nat → Prop} (C0 : zC p s m args meth c cFa_begin 3 RFa zT none A) (hE : zE ad A s) (a_this : Nat) (a_values : Nat) (a_letters : Nat) (k_values : ClassId) (k_letters : ClassId) (p1 : Nat) (v_this_letterCount : Int32) (v_this_kind : Nat) (v_values : Nat → Int32) (v_letters : Nat → Int32) (post : Int32 → Nat → (Nat → Int32) → (Nat → Int32) → Prop) (hK : va_K (dC, dI) vwCl [(k_values, .int), (k_letters, .char)] s) : ∀ (n : Nat), ∀ (y2 : Int32) (u_this_letterCount : Int32) (u_this_kind : Nat) (u_values : Nat → Int32) (u_letters : Nat → Int32) (H : Heap) (locs : List Loc), P_Fa_begin_45 p1 post n y2 u_this_letterCount u_this_kind u_values u_letters → va_P (dC, dI) vwCl (w_Fa_begin ad a_this a_values a_letters k_values k_letters u_this_letterCount u_this_kind u_values u_letters) H → va_D A (w_Fa_begin ad a_this a_values a_letters k_values k_letters u_this_letterCount u_this_kind u_values u_letters) → va_S A s.heap H locs → ∀ ls : Array Slot, lv_has ls 3 [(0, .ref a_this), (1, .ref (ad 0 p1)), (2, .int y2)] → W p l e (headSpec wsFa_begin { frames := 4, cells := 0, slots := 0, locals := 85 }).room s m args below meth c H locs 0 0 (MQ below (va_Qv (fun (u : Int32 × Nat × (Nat → Int32) × (Nat → Int32)) => post u.1 u.2.1 u.2.2.1 u.2.2.2) (zB (dC, dI) A (fun (u : Int32 × Nat × (Nat → Int32) × (Nat → Int32)) => (w_Fa_begin ad a_this a_values a_letters k_values k_letters u.1 u.2.1 u.2.2.1 u.2.2.2))) A) args s 0 0 A) (F0 m 45 ls []) := by
  obtain ⟨hx, hb, hr, hml, hown, hts, hlocks, hA⟩ := id C0
  intro n
  induction n with
  | zero =>
    intro y2 u_this_letterCount u_this_kind u_values u_letters H locs h
    exact False.elim h
  | succ n ih =>
    intro y2 u_this_letterCount u_this_kind u_values u_letters H locs h hP hD hS ls hl
    rw [P_Fa_begin_45] at h
    refine lv_iload_n hx hb dFa_begin_45 rfl (lv_at hl 2 rfl) ?_
    refine lv_aload_n hx hb dFa_begin_46 rfl (lv_at hl 1 rfl) ?_
    obtain ⟨hn1, h⟩ := h
    refine zz_getON (o := "FootprintRules$Kind") (n := "capitals") (d := "Ljava/lang/String;") (v := .ref (ad 2 (zKind_capitals.getD p1 0))) hx hb (hE.fKind_capitals p1 hn1) hS hown ((hE.nw _ zn_1334).use rfl) (fun _ h9 => h9) dFa_begin_47 ?_
    obtain ⟨hn3, h⟩ := h
    refine zcall_i hP hD hS hA [] [0, 1, 2] (va_runV (As := []) (rest := [.int y2]) ⟨hx, hb, hml, hown, hts⟩ (c_JS_length l dC dI ad _ (zKind_capitals.getD p1 0) _ h) ⟨callB_of 0 hts (zgood zc_JS_length) rfl rfl rfl (hts _ zw_112) (hts _ zw_586) (by decide +kernel) ⟨Nat.le_of_ble_eq_true rfl, Nat.le_of_ble_eq_true rfl⟩, (hts _ zw_525), (hts _ zw_526)⟩ (zpreC hE hK hP hD hS hA [] [] (by rfl) (by rfl) (by decide) (zS_recv hE.str hn3 hS)) rfl rfl hl.1 rfl (lv_room (Nat.le_of_ble_eq_true rfl)) dFa_begin_50 ⟨Nat.le_of_ble_eq_true rfl, Nat.le_of_ble_eq_true rfl⟩) (by rfl) (by rfl) (by decide) (by decide) (fun r2 u H locs h hP hD hS => ?_)
    try dsimp only at h
    have hP := hP.sub (ws' := (w_Fa_begin ad a_this a_values a_letters k_values k_letters u_this_letterCount u_this_kind u_values u_letters)) [0, 1, 2] rfl
    have hD := hD.sub (ws' := (w_Fa_begin ad a_this a_values a_letters k_values k_letters u_this_letterCount u_this_kind u_values u_letters)) [0, 1, 2] (by decide) rfl
    refine lv_icmp_ge (tgt := 74) hx hb dFa_begin_53 (by decide) ?_ ?_
    · intro c4
      replace h := h.1 c4
      exact W.vret hx hb hr (fun t ht hW => ⟨⟨(u_this_letterCount, u_this_kind, u_values, u_letters), rfl, h, by rw [ht]; exact hP, hD⟩, hS.F ht⟩) hS.2.2 dFa_begin_74
    · intro c4
      replace h := h.2 c4
      refine lv_aload_n hx hb dFa_begin_56 rfl (lv_at hl 0 rfl) ?_
      refine lv_aload_n hx hb dFa_begin_57 rfl (lv_at hl 1 rfl) ?_
      obtain ⟨hn5, h⟩ := h
      refine zz_getON (o := "FootprintRules$Kind") (n := "capitals") (d := "Ljava/lang/String;") (v := .ref (ad 2 (zKind_capitals.getD p1 0))) hx hb (hE.fKind_capitals p1 hn5) hS hown ((hE.nw _ zn_1334).use rfl) (fun _ h9 => h9) dFa_begin_58 ?_
      refine lv_iload_n hx hb dFa_begin_61 rfl (lv_at hl 2 rfl) ?_
      obtain ⟨hn7, h⟩ := h
      refine zcall_i hP hD hS hA [] [0, 1, 2] (va_runV (As := [.int y2]) (rest := [.ref a_this]) ⟨hx, hb, hml, hown, hts⟩ (c_JS_charAt l dC dI ad _ (zKind_capitals.getD p1 0) y2 _ h) ⟨callB_of 1 hts (zgood zc_JS_charAt) rfl rfl rfl (hts _ zw_112) (hts _ zw_587) (by decide +kernel) ⟨Nat.le_of_ble_eq_true rfl, Nat.le_of_ble_eq_true rfl⟩, (hts _ zw_539), (hts _ zw_540)⟩ (zpreC hE hK hP hD hS hA [] [] (by rfl) (by rfl) (by decide) (zS_recv hE.str hn7 hS)) rfl rfl hl.1 rfl (lv_room (Nat.le_of_ble_eq_true rfl)) dFa_begin_62 ⟨Nat.le_of_ble_eq_true rfl, Nat.le_of_ble_eq_true rfl⟩) (by rfl) (by rfl) (by decide) (by decide) (fun r6 u H locs h hP hD hS => ?_)
      try dsimp only at h
      have hP := hP.sub (ws' := (w_Fa_begin ad a_this a_values a_letters k_values k_letters u_this_letterCount u_this_kind u_values u_letters)) [0, 1, 2] rfl
      have hD := hD.sub (ws' := (w_Fa_begin ad a_this a_values a_letters k_values k_letters u_this_letterCount u_this_kind u_values u_letters)) [0, 1, 2] (by decide) rfl
      refine zcall_v hP hD hS hA [0, 2] [1] (va_runV (As := [.int r6]) (rest := []) ⟨hx, hb, hml, hown, hts⟩ (c_Fa_addLetter l dC dI ad a_this a_values a_letters k_letters _ r6 u_this_letterCount u_this_kind u_letters _ h) ⟨callB_of 1 hts (zgood zc_Fa_addLetter) rfl rfl rfl (hts _ zw_102) (hts _ zw_588) (by decide +kernel) ⟨Nat.le_of_ble_eq_true rfl, Nat.le_of_ble_eq_true rfl⟩, (hts _ zw_590), (hts _ zw_15)⟩ (zpreV hE hK hP hD hS hA [0, 2] [1] (by rfl) (by rfl) (by decide) (ci := 2) (q0 := 0) rfl (by rfl)) rfl rfl hl.1 rfl (lv_room (Nat.le_of_ble_eq_true rfl)) dFa_begin_65 ⟨Nat.le_of_ble_eq_true rfl, Nat.le_of_ble_eq_true rfl⟩) (by rfl) (by rfl) (by decide) (by decide) (fun u H locs h hP hD hS => ?_)
      obtain ⟨u8, u9⟩ := u
      try dsimp only at h
      have hP := hP.sub (ws' := (w_Fa_begin ad a_this a_values a_letters k_values k_letters u8 u_this_kind u_values u9)) [1, 0, 2] rfl
      have hD := hD.sub (ws' := (w_Fa_begin ad a_this a_values a_letters k_values k_letters u8 u_this_kind u_values u9)) [1, 0, 2] (by decide) rfl
      obtain ⟨x10, ex10⟩ : ∃ y : Int32, y = y2 + 1 := ⟨_, rfl⟩
      replace h := h x10 ex10
      refine lv_iinc (v := x10) (lv' := [(2, .int x10), (0, .ref a_this), (1, .ref (ad 0 p1))]) hx hb dFa_begin_68 hl (k := 2) rfl (by rw [ex10]; rfl) (by decide) rfl (fun ls hl => ?_)
      refine lv_goto (tgt := 45) hx hb dFa_begin_71 (by decide) ?_
      exact ih x10 u8 u_this_kind u_values u9 _ _ h hP hD hS ls (lv_sub hl [1, 2, 0] rfl)
def P_Fa_begin_7 (p1 : Nat) (v_letters : Nat → Int32) (post : Int32 → Nat → (Nat → Int32) → (Nat → Int32) → Prop) : Nat → Int32 → Nat → (Nat → Int32) → Prop
  | 0, _, _, _ => False
  | n + 1, y2, u_this_kind, u_values => ((18 ≤ y2 → P_Fa_put 4 0 1 u_values (fun (u2 : Nat → Int32) => ∃ n3, P_Fa_begin_45 p1 post n3 0 0 u_this_kind u2 v_letters)) ∧ (¬ 18 ≤ y2 → vp_in y2 18 ∧ ∀ x5 : Int32, x5 = y2 + 1 → P_Fa_begin_7 p1 v_letters post n x5 u_this_kind (upd u_values y2.toNatClampNeg 0)))
set_option maxHeartbeats 4000000 in
set_option maxRecDepth 100000 in
theorem w_Fa_begin_7 (l : Launch) {p : Program} {e : Env} {s : State} {m : MethodId} {args : Array Value} {below : List Frame} {meth : Method} {c : Code} {dC : Nat → ClassId} {dI : Nat → Nat → Nat} {ad : Nat → Nat → Nat} {A : Nat → Prop} (C0 : zC p s m args meth c cFa_begin 3 RFa zT none A) (hE : zE ad A s) (a_this : Nat) (a_values : Nat) (a_letters : Nat) (k_values : ClassId) (k_letters : ClassId) (p1 : Nat) (v_this_letterCount : Int32) (v_this_kind : Nat) (v_values : Nat → Int32) (v_letters : Nat → Int32) (post : Int32 → Nat → (Nat → Int32) → (Nat → Int32) → Prop) (hK : va_K (dC, dI) vwCl [(k_values, .int), (k_letters, .char)] s) : ∀ (n : Nat), ∀ (y2 : Int32) (u_this_kind : Nat) (u_values : Nat → Int32) (H : Heap) (locs : List Loc), P_Fa_begin_7 p1 v_letters post n y2 u_this_kind u_values → va_P (dC, dI) vwCl (w_Fa_begin ad a_this a_values a_letters k_values k_letters v_this_letterCount u_this_kind u_values v_letters) H → va_D A (w_Fa_begin ad a_this a_values a_letters k_values k_letters v_this_letterCount u_this_kind u_values v_letters) → va_S A s.heap H locs → ∀ ls : Array Slot, lv_has ls 3 [(0, .ref a_this), (1, .ref (ad 0 p1)), (2, .int y2)] → W p l e (headSpec wsFa_begin { frames := 4, cells := 0, slots := 0, locals := 85 }).room s m args below meth c H locs 0 0 (MQ below (va_Qv (fun (u : Int32 × Nat × (Nat → Int32) × (Nat → Int32)) => post u.1 u.2.1 u.2.2.1 u.2.2.2) (zB (dC, dI) A (fun (u : Int32 × Nat × (Nat → Int32) × (Nat → Int32)) => (w_Fa_begin ad a_this a_values a_letters k_values k_letters u.1 u.2.1 u.2.2.1 u.2.2.2))) A) args s 0 0 A) (F0 m 7 ls []) := by
  obtain ⟨hx, hb, hr, hml, hown, hts, hlocks, hA⟩ := id C0
  intro n
  induction n with
  | zero =>
    intro y2 u_this_kind u_values H locs h
    exact False.elim h
  | succ n ih =>
    intro y2 u_this_kind u_values H locs h hP hD hS ls hl
    rw [P_Fa_begin_7] at h
    refine lv_iload_n hx hb dFa_begin_7 rfl (lv_at hl 2 rfl) ?_
    refine lv_aload_n hx hb dFa_begin_8 rfl (lv_at hl 0 rfl) ?_
    refine va_get (D := (dC, dI)) (ci := 2) (v := .ref a_values) (C := RFa) (T := TFa) (N := 4) hx hb hts inZ_Fa hown hK hP 0 rfl rfl 0 (by decide) (hts _ zw_225) (fun _ h9 => h9) rfl dFa_begin_9 ?_
    refine va_alen (v := 18) hx hb hK hP 1 0 rfl rfl (show Int32.ofNat 18 = 18 by decide) dFa_begin_12 ?_
    refine lv_icmp_ge (tgt := 29) hx hb dFa_begin_13 (by decide) ?_ ?_
    · intro c1
      replace h := h.1 c1
      refine lv_aload_n hx hb dFa_begin_29 rfl (lv_at hl 0 rfl) ?_
      refine va_gets (C := "FootprintRules$Key") (n := "ROUNDING") (d := "LFootprintRules$Key;") hx hb (hE.enKey.1 4 (by decide)).1 hS hown (hts _ zw_580) (fun _ h9 => h9) dFa_begin_30 ?_
      refine lv_iconst (v := 0) hx hb dFa_begin_33 (by decide) ?_
      refine lv_iconst (v := 1) hx hb dFa_begin_34 (by decide) ?_
      refine zcall_v hP hD hS hA [0, 1] [2] (va_runV (As := [.ref (ad 1 4), .int 0, .int 1]) (rest := []) ⟨hx, hb, hml, hown, hts⟩ (c_Fa_put l dC dI ad a_this a_values a_letters k_values _ 4 0 1 v_this_letterCount u_this_kind u_values _ h) ⟨callB_of 3 hts (zgood zc_Fa_put) rfl rfl rfl (hts _ zw_102) (hts _ zw_582) (by decide +kernel) ⟨Nat.le_of_ble_eq_true rfl, Nat.le_of_ble_eq_true rfl⟩, (hts _ zw_584), (hts _ zw_14)⟩ (zpreV hE hK hP hD hS hA [0, 1] [0] (by rfl) (by rfl) (by decide) (ci := 2) (q0 := 0) rfl (by rfl)) rfl rfl hl.1 rfl (lv_room (Nat.le_of_ble_eq_true rfl)) dFa_begin_35 ⟨Nat.le_of_ble_eq_true rfl, Nat.le_of_ble_eq_true rfl⟩) (by rfl) (by rfl) (by decide) (by decide) (fun u2 H locs h hP hD hS => ?_)
      try dsimp only at h
      have hP := hP.sub (ws' := (w_Fa_begin ad a_this a_values a_letters k_values k_letters v_this_letterCount u_this_kind u2 v_letters)) [1, 2, 0] rfl
      have hD := hD.sub (ws' := (w_Fa_begin ad a_this a_values a_letters k_values k_letters v_this_letterCount u_this_kind u2 v_letters)) [1, 2, 0] (by decide) rfl
      refine lv_aload_n hx hb dFa_begin_38 rfl (lv_at hl 0 rfl) ?_
      refine lv_iconst (v := 0) hx hb dFa_begin_39 (by decide) ?_
      refine va_put (D := (dC, dI)) (ci := 2) (v := .int 0) (ty := .int) (C := RFa) (T := TFa) (N := 4) hx hb hts inZ_Fa tyFa tyFa_ok nmFa hown hK hP hD hS 0 rfl rfl 2 (by decide) (hts _ zw_228) (fun _ h9 => h9) rfl (by decide +kernel) rfl rfl (Nat.le_of_ble_eq_true rfl) dFa_begin_40 (fun H locs hP hD hS => ?_)
      have hP : va_P (dC, dI) vwCl (w_Fa_begin ad a_this a_values a_letters k_values k_letters 0 u_this_kind u2 v_letters) H := hP
      have hD : va_D A (w_Fa_begin ad a_this a_values a_letters k_values k_letters 0 u_this_kind u2 v_letters) := hD
      refine lv_iconst (v := 0) hx hb dFa_begin_43 (by decide) ?_
      refine lv_istore_n (lv' := [(2, .int 0), (0, .ref a_this), (1, .ref (ad 0 p1))]) hx hb dFa_begin_44 rfl hl (by decide) rfl (fun ls hl => ?_)
      obtain ⟨n3, h⟩ := h
      exact w_Fa_begin_45 l C0 hE a_this a_values a_letters k_values k_letters p1 v_this_letterCount v_this_kind v_values v_letters post hK n3 0 0 u_this_kind u2 v_letters _ _ h hP hD hS ls (lv_sub hl [1, 2, 0] rfl)
    · intro c1
      replace h := h.2 c1
      refine lv_aload_n hx hb dFa_begin_16 rfl (lv_at hl 0 rfl) ?_
      refine va_get (D := (dC, dI)) (ci := 2) (v := .ref a_values) (C := RFa) (T := TFa) (N := 4) hx hb hts inZ_Fa hown hK hP 0 rfl rfl 0 (by decide) (hts _ zw_225) (fun _ h9 => h9) rfl dFa_begin_17 ?_
      refine lv_iload_n hx hb dFa_begin_20 rfl (lv_at hl 2 rfl) ?_
      refine lv_iconst (v := 0) hx hb dFa_begin_21 (by decide) ?_
      obtain ⟨hn4, h⟩ := h
      refine va_iast hx hb hK hP hD hS 1 0 rfl rfl hn4 dFa_begin_22 (fun H locs hP hD hS => ?_)
      have hP : va_P (dC, dI) vwCl (w_Fa_begin ad a_this a_values a_letters k_values k_letters v_this_letterCount u_this_kind (upd u_values y2.toNatClampNeg 0) v_letters) H := hP
      have hD : va_D A (w_Fa_begin ad a_this a_values a_letters k_values k_letters v_this_letterCount u_this_kind (upd u_values y2.toNatClampNeg 0) v_letters) := hD
      obtain ⟨x5, ex5⟩ : ∃ y : Int32, y = y2 + 1 := ⟨_, rfl⟩
      replace h := h x5 ex5
      refine lv_iinc (v := x5) (lv' := [(2, .int x5), (0, .ref a_this), (1, .ref (ad 0 p1))]) hx hb dFa_begin_23 hl (k := 2) rfl (by rw [ex5]; rfl) (by decide) rfl (fun ls hl => ?_)
      refine lv_goto (tgt := 7) hx hb dFa_begin_26 (by decide) ?_
      exact ih x5 u_this_kind (upd u_values y2.toNatClampNeg 0) _ _ h hP hD hS ls (lv_sub hl [1, 2, 0] rfl)
def P_Fa_begin (p1 : Nat) (v_values : Nat → Int32) (v_letters : Nat → Int32) (post : Int32 → Nat → (Nat → Int32) → (Nat → Int32) → Prop) : Prop := ∃ n1, P_Fa_begin_7 p1 v_letters post n1 0 p1 v_values
set_option maxHeartbeats 4000000 in
set_option maxRecDepth 100000 in
theorem c_Fa_begin (l : Launch) (dC : Nat → ClassId) (dI : Nat → Nat → Nat) (ad : Nat → Nat → Nat) (a_this : Nat) (a_values : Nat) (a_letters : Nat) (k_values : ClassId) (k_letters : ClassId) (sz : Nat) (p1 : Nat) (v_this_letterCount : Int32) (v_this_kind : Nat) (v_values : Nat → Int32) (v_letters : Nat → Int32) (post : Int32 → Nat → (Nat → Int32) → (Nat → Int32) → Prop) (h : P_Fa_begin p1 v_values v_letters post) : zMv l yFa_begin wsFa_begin { frames := 4, cells := 0, slots := 0, locals := 85 } (dC, dI) ad [.ref a_this, .ref (ad 0 p1)] (w_Fa_begin ad a_this a_values a_letters k_values k_letters v_this_letterCount v_this_kind v_values v_letters) [(k_values, .int), (k_letters, .char)] sz (fun (u : Int32 × Nat × (Nat → Int32) × (Nat → Int32)) => post u.1 u.2.1 u.2.2.1 u.2.2.2) (fun (u : Int32 × Nat × (Nat → Int32) × (Nat → Int32)) => (w_Fa_begin ad a_this a_values a_letters k_values k_letters u.1 u.2.1 u.2.2.1 u.2.2.2)) 0 0 := by
  refine Met.ofW (cc := cFa_begin) (maxL := 3) (ret := none) (by decide +kernel) rfl ?_
  intro p e s m args below meth c s₁ B hml hv
  obtain ⟨rfl, hsz, hP, hK, hD0, hE⟩ := hv
  have hx := B.exec
  have hb := B.bytes
  have hr := B.returns
  have hts0 := atoms_spec (ws := wsFa_begin) B.pre
  have hts := fun w h => hts0 w (List.mem_cons_of_mem _ h)
  have hown : s.vm.findClass RFa = some m.cls := findClass_of_methodNamed B.named
  have hlocks := B.notSynchronized
  subst hsz
  have hD := hD0.self (sz := s.heap.size)
  generalize hAe : va_A (w_Fa_begin ad a_this a_values a_letters k_values k_letters v_this_letterCount v_this_kind v_values v_letters) s.heap.size = A at hD hE ⊢
  have hA : ∀ q : Nat, s.heap.size ≤ q → A q := fun q h => by rw [← hAe]; exact Or.inr h
  have C0 := zC.mk hx hb hr hml hown hts hlocks hA
  have hS : va_S A s.heap s.heap [] := va_S.rf
  have hl := lv_entry ([.ref a_this, .ref (ad 0 p1)]) (n := 3) (Nat.le_of_ble_eq_true rfl)
  rw [lg_entry_eq]
  generalize (lg_sl ([.ref a_this, .ref (ad 0 p1)]) ++ List.replicate (3 - (lg_sl ([.ref a_this, .ref (ad 0 p1)])).length) Slot.unset).toArray = ls at hl ⊢
  have hl : lv_has ls 3 [(0, .ref a_this), (1, .ref (ad 0 p1))] := hl
  unfold P_Fa_begin at h
  refine lv_aload_n hx hb dFa_begin_0 rfl (lv_at hl 0 rfl) ?_
  refine lv_aload_n hx hb dFa_begin_1 rfl (lv_at hl 1 rfl) ?_
  refine va_put (D := (dC, dI)) (ci := 2) (v := .ref (ad 0 p1)) (ty := (.object "FootprintRules$Kind")) (C := RFa) (T := TFa) (N := 4) hx hb hts inZ_Fa tyFa tyFa_ok nmFa hown hK hP hD hS 0 rfl rfl 3 (by decide) (hts _ zw_231) (fun _ h9 => h9) rfl (by decide +kernel) rfl rfl (Nat.le_of_ble_eq_true rfl) dFa_begin_2 (fun H locs hP hD hS => ?_)
  have hP : va_P (dC, dI) vwCl (w_Fa_begin ad a_this a_values a_letters k_values k_letters v_this_letterCount p1 v_values v_letters) H := hP
  have hD : va_D A (w_Fa_begin ad a_this a_values a_letters k_values k_letters v_this_letterCount p1 v_values v_letters) := hD
  refine lv_iconst (v := 0) hx hb dFa_begin_5 (by decide) ?_
  refine lv_istore_n (lv' := [(2, .int 0), (0, .ref a_this), (1, .ref (ad 0 p1))]) hx hb dFa_begin_6 rfl hl (by decide) rfl (fun ls hl => ?_)
  obtain ⟨n1, h⟩ := h
  exact w_Fa_begin_7 l C0 hE a_this a_values a_letters k_values k_letters p1 v_this_letterCount v_this_kind v_values v_letters post hK n1 0 p1 v_values _ _ h hP hD hS ls (lv_sub hl [1, 2, 0] rfl)
abbrev yLi_addWord : MethodName := ⟨"FootprintRules$Line", "addWord", "(Ljava/lang/String;)V"⟩
abbrev cLi_addWord : ByteArray := prog_9_method_4_code
abbrev wsLi_addWord : List Cond := .code yLi_addWord cLi_addWord 3 none :: zT
set_option maxRecDepth 100000 in
theorem zc_Li_addWord : Cond.code yLi_addWord cLi_addWord 3 none ∈ zT := zm 903 (by rfl) (by rfl)
theorem dLi_addWord_0 : decode cLi_addWord 0 = .ok (.iconst 0, 1) := by decide +kernel
theorem dLi_addWord_1 : decode cLi_addWord 1 = .ok (.istore_n 2, 1) := by decide +kernel
theorem dLi_addWord_2 : decode cLi_addWord 2 = .ok (.iload_n 2, 1) := by decide +kernel
theorem dLi_addWord_3 : decode cLi_addWord 3 = .ok (.aload_n 1, 1) := by decide +kernel
theorem dLi_addWord_4 : decode cLi_addWord 4 = .ok (.invokevirtual 19, 3) := by decide +kernel
theorem dLi_addWord_7 : decode cLi_addWord 7 = .ok (.if_icmp .ge 18, 3) := by decide +kernel
theorem dLi_addWord_10 : decode cLi_addWord 10 = .ok (.aload_n 0, 1) := by decide +kernel
theorem dLi_addWord_11 : decode cLi_addWord 11 = .ok (.aload_n 1, 1) := by decide +kernel
theorem dLi_addWord_12 : decode cLi_addWord 12 = .ok (.iload_n 2, 1) := by decide +kernel
theorem dLi_addWord_13 : decode cLi_addWord 13 = .ok (.invokevirtual 24, 3) := by decide +kernel
theorem dLi_addWord_16 : decode cLi_addWord 16 = .ok (.invokevirtual 28, 3) := by decide +kernel
theorem dLi_addWord_19 : decode cLi_addWord 19 = .ok (.iinc 2 1, 3) := by decide +kernel
theorem dLi_addWord_22 : decode cLi_addWord 22 = .ok (.goto (-20), 3) := by decide +kernel
theorem dLi_addWord_25 : decode cLi_addWord 25 = .ok (.return_, 1) := by decide +kernel
-- FootprintRules$Line.addWord(Ljava/lang/String;)V
abbrev w_Li_addWord (ad : Nat → Nat → Nat) (a_this : Nat) (a_units : Nat) (k_units : ClassId) (v_this_length : Int32) (v_units : Nat → Int32) : va_W := [(a_this, .inr (7, [.ref a_units, .int v_this_length])), (a_units, .inl (k_units, 4096, .inl v_units))]
def P_Li_addWord_2 (p1 : Nat) (post : Int32 → (Nat → Int32) → Prop) : Nat → Int32 → Int32 → (Nat → Int32) → Prop
  | 0, _, _, _ => False
  | n + 1, y2, u_this_length, u_units => p1 < zNS ∧ P_JS_length p1 (fun (r1 : Int32) => ((r1 ≤ y2 → post u_this_length u_units) ∧ (¬ r1 ≤ y2 → p1 < zNS ∧ P_JS_charAt p1 y2 (fun (r4 : Int32) => P_Li_addUnit r4 u_this_length u_units (fun (u6 : Int32) (u7 : Nat → Int32) => ∀ x8 : Int32, x8 = y2 + 1 → P_Li_addWord_2 p1 post n x8 u6 u7)))))
set_option maxHeartbeats 4000000 in
set_option maxRecDepth 100000 in
theorem w_Li_addWord_2 (l : Launch) {p : Program} {e : Env} {s : State} {m : MethodId} {args : Array Value} {below : List Frame} {meth : Method} {c : Code} {dC : Nat → ClassId} {dI : Nat → Nat → Nat} {ad : Nat → Nat → Nat} {A : Nat → Prop} (C0 : zC p s m args meth c cLi_addWord 3 RLi zT none A) (hE : zE ad A s) (a_this : Nat) (a_units : Nat) (k_units : ClassId) (p1 : Nat) (v_this_length : Int32) (v_units : Nat → Int32) (post : Int32 → (Nat → Int32) → Prop) (hK : va_K (dC, dI) vwCl [(k_units, .char)] s) : ∀ (n : Nat), ∀ (y2 : Int32) (u_this_length : Int32) (u_units : Nat → Int32) (H : Heap) (locs : List Loc), P_Li_addWord_2 p1 post n y2 u_this_length u_units → va_P (dC, dI) vwCl (w_Li_addWord ad a_this a_units k_units u_this_length u_units) H → va_D A (w_Li_addWord ad a_this a_units k_units u_this_length u_units) → va_S A s.heap H locs → ∀ ls : Array Slot, lv_has ls 3 [(0, .ref a_this), (1, .ref (ad 2 p1)), (2, .int y2)] → W p l e (headSpec wsLi_addWord { frames := 4, cells := 0, slots := 0, locals := 85 }).room s m args below meth c H locs 0 0 (MQ below (va_Qv (fun (u : Int32 × (Nat → Int32)) => post u.1 u.2) (zB (dC, dI) A (fun (u : Int32 × (Nat → Int32)) => (w_Li_addWord ad a_this a_units k_units u.1 u.2))) A) args s 0 0 A) (F0 m 2 ls []) := by
  obtain ⟨hx, hb, hr, hml, hown, hts, hlocks, hA⟩ := id C0
  intro n
  induction n with
  | zero =>
    intro y2 u_this_length u_units H locs h
    exact False.elim h
  | succ n ih =>
    intro y2 u_this_length u_units H locs h hP hD hS ls hl
    rw [P_Li_addWord_2] at h
    refine lv_iload_n hx hb dLi_addWord_2 rfl (lv_at hl 2 rfl) ?_
    refine lv_aload_n hx hb dLi_addWord_3 rfl (lv_at hl 1 rfl) ?_
    obtain ⟨hn2, h⟩ := h
    refine zcall_i hP hD hS hA [] [0, 1] (va_runV (As := []) (rest := [.int y2]) ⟨hx, hb, hml, hown, hts⟩ (c_JS_length l dC dI ad _ p1 _ h) ⟨callB_of 0 hts (zgood zc_JS_length) rfl rfl rfl (hts _ zw_112) (hts _ zw_904) (by decide +kernel) ⟨Nat.le_of_ble_eq_true rfl, Nat.le_of_ble_eq_true rfl⟩, (hts _ zw_525), (hts _ zw_526)⟩ (zpreC hE hK hP hD hS hA [] [] (by rfl) (by rfl) (by decide) (zS_recv hE.str hn2 hS)) rfl rfl hl.1 rfl (lv_room (Nat.le_of_ble_eq_true rfl)) dLi_addWord_4 ⟨Nat.le_of_ble_eq_true rfl, Nat.le_of_ble_eq_true rfl⟩) (by rfl) (by rfl) (by decide) (by decide) (fun r1 u H locs h hP hD hS => ?_)
    try dsimp only at h
    have hP := hP.sub (ws' := (w_Li_addWord ad a_this a_units k_units u_this_length u_units)) [0, 1] rfl
    have hD := hD.sub (ws' := (w_Li_addWord ad a_this a_units k_units u_this_length u_units)) [0, 1] (by decide) rfl
    refine lv_icmp_ge (tgt := 25) hx hb dLi_addWord_7 (by decide) ?_ ?_
    · intro c3
      replace h := h.1 c3
      exact W.vret hx hb hr (fun t ht hW => ⟨⟨(u_this_length, u_units), rfl, h, by rw [ht]; exact hP, hD⟩, hS.F ht⟩) hS.2.2 dLi_addWord_25
    · intro c3
      replace h := h.2 c3
      refine lv_aload_n hx hb dLi_addWord_10 rfl (lv_at hl 0 rfl) ?_
      refine lv_aload_n hx hb dLi_addWord_11 rfl (lv_at hl 1 rfl) ?_
      refine lv_iload_n hx hb dLi_addWord_12 rfl (lv_at hl 2 rfl) ?_
      obtain ⟨hn5, h⟩ := h
      refine zcall_i hP hD hS hA [] [0, 1] (va_runV (As := [.int y2]) (rest := [.ref a_this]) ⟨hx, hb, hml, hown, hts⟩ (c_JS_charAt l dC dI ad _ p1 y2 _ h) ⟨callB_of 1 hts (zgood zc_JS_charAt) rfl rfl rfl (hts _ zw_112) (hts _ zw_905) (by decide +kernel) ⟨Nat.le_of_ble_eq_true rfl, Nat.le_of_ble_eq_true rfl⟩, (hts _ zw_539), (hts _ zw_540)⟩ (zpreC hE hK hP hD hS hA [] [] (by rfl) (by rfl) (by decide) (zS_recv hE.str hn5 hS)) rfl rfl hl.1 rfl (lv_room (Nat.le_of_ble_eq_true rfl)) dLi_addWord_13 ⟨Nat.le_of_ble_eq_true rfl, Nat.le_of_ble_eq_true rfl⟩) (by rfl) (by rfl) (by decide) (by decide) (fun r4 u H locs h hP hD hS => ?_)
      try dsimp only at h
      have hP := hP.sub (ws' := (w_Li_addWord ad a_this a_units k_units u_this_length u_units)) [0, 1] rfl
      have hD := hD.sub (ws' := (w_Li_addWord ad a_this a_units k_units u_this_length u_units)) [0, 1] (by decide) rfl
      refine zcall_v hP hD hS hA [0, 1] [] (va_runV (As := [.int r4]) (rest := []) ⟨hx, hb, hml, hown, hts⟩ (c_Li_addUnit l dC dI ad a_this a_units k_units _ r4 u_this_length u_units _ h) ⟨callB_of 1 hts (zgood zc_Li_addUnit) rfl rfl rfl (hts _ zw_106) (hts _ zw_888) (by decide +kernel) ⟨Nat.le_of_ble_eq_true rfl, Nat.le_of_ble_eq_true rfl⟩, (hts _ zw_882), (hts _ zw_52)⟩ (zpreV hE hK hP hD hS hA [0, 1] [0] (by rfl) (by rfl) (by decide) (ci := 7) (q0 := 0) rfl (by rfl)) rfl rfl hl.1 rfl (lv_room (Nat.le_of_ble_eq_true rfl)) dLi_addWord_16 ⟨Nat.le_of_ble_eq_true rfl, Nat.le_of_ble_eq_true rfl⟩) (by rfl) (by rfl) (by decide) (by decide) (fun u H locs h hP hD hS => ?_)
      obtain ⟨u6, u7⟩ := u
      try dsimp only at h
      have hP := hP.sub (ws' := (w_Li_addWord ad a_this a_units k_units u6 u7)) [0, 1] rfl
      have hD := hD.sub (ws' := (w_Li_addWord ad a_this a_units k_units u6 u7)) [0, 1] (by decide) rfl
      obtain ⟨x8, ex8⟩ : ∃ y : Int32, y = y2 + 1 := ⟨_, rfl⟩
      replace h := h x8 ex8
      refine lv_iinc (v := x8) (lv' := [(2, .int x8), (0, .ref a_this), (1, .ref (ad 2 p1))]) hx hb dLi_addWord_19 hl (k := 2) rfl (by rw [ex8]; rfl) (by decide) rfl (fun ls hl => ?_)
      refine lv_goto (tgt := 2) hx hb dLi_addWord_22 (by decide) ?_
      exact ih x8 u6 u7 _ _ h hP hD hS ls (lv_sub hl [1, 2, 0] rfl)
def P_Li_addWord (p1 : Nat) (v_this_length : Int32) (v_units : Nat → Int32) (post : Int32 → (Nat → Int32) → Prop) : Prop := ∃ n1, P_Li_addWord_2 p1 post n1 0 v_this_length v_units
set_option maxHeartbeats 4000000 in
set_option maxRecDepth 100000 in
theorem c_Li_addWord (l : Launch) (dC : Nat → ClassId) (dI : Nat → Nat → Nat) (ad : Nat → Nat → Nat) (a_this : Nat) (a_units : Nat) (k_units : ClassId) (sz : Nat) (p1 : Nat) (v_this_length : Int32) (v_units : Nat → Int32) (post : Int32 → (Nat → Int32) → Prop) (h : P_Li_addWord p1 v_this_length v_units post) : zMv l yLi_addWord wsLi_addWord { frames := 4, cells := 0, slots := 0, locals := 85 } (dC, dI) ad [.ref a_this, .ref (ad 2 p1)] (w_Li_addWord ad a_this a_units k_units v_this_length v_units) [(k_units, .char)] sz (fun (u : Int32 × (Nat → Int32)) => post u.1 u.2) (fun (u : Int32 × (Nat → Int32)) => (w_Li_addWord ad a_this a_units k_units u.1 u.2)) 0 0 := by
  refine Met.ofW (cc := cLi_addWord) (maxL := 3) (ret := none) (by decide +kernel) rfl ?_
  intro p e s m args below meth c s₁ B hml hv
  obtain ⟨rfl, hsz, hP, hK, hD0, hE⟩ := hv
  have hx := B.exec
  have hb := B.bytes
  have hr := B.returns
  have hts0 := atoms_spec (ws := wsLi_addWord) B.pre
  have hts := fun w h => hts0 w (List.mem_cons_of_mem _ h)
  have hown : s.vm.findClass RLi = some m.cls := findClass_of_methodNamed B.named
  have hlocks := B.notSynchronized
  subst hsz
  have hD := hD0.self (sz := s.heap.size)
  generalize hAe : va_A (w_Li_addWord ad a_this a_units k_units v_this_length v_units) s.heap.size = A at hD hE ⊢
  have hA : ∀ q : Nat, s.heap.size ≤ q → A q := fun q h => by rw [← hAe]; exact Or.inr h
  have C0 := zC.mk hx hb hr hml hown hts hlocks hA
  have hS : va_S A s.heap s.heap [] := va_S.rf
  have hl := lv_entry ([.ref a_this, .ref (ad 2 p1)]) (n := 3) (Nat.le_of_ble_eq_true rfl)
  rw [lg_entry_eq]
  generalize (lg_sl ([.ref a_this, .ref (ad 2 p1)]) ++ List.replicate (3 - (lg_sl ([.ref a_this, .ref (ad 2 p1)])).length) Slot.unset).toArray = ls at hl ⊢
  have hl : lv_has ls 3 [(0, .ref a_this), (1, .ref (ad 2 p1))] := hl
  unfold P_Li_addWord at h
  refine lv_iconst (v := 0) hx hb dLi_addWord_0 (by decide) ?_
  refine lv_istore_n (lv' := [(2, .int 0), (0, .ref a_this), (1, .ref (ad 2 p1))]) hx hb dLi_addWord_1 rfl hl (by decide) rfl (fun ls hl => ?_)
  obtain ⟨n1, h⟩ := h
  exact w_Li_addWord_2 l C0 hE a_this a_units k_units p1 v_this_length v_units post hK n1 0 v_this_length v_units _ _ h hP hD hS ls (lv_sub hl [1, 2, 0] rfl)
abbrev yFR_readKind : MethodName := ⟨"FootprintRules$FamilyReader", "readKind", "(LFootprintRules$Family;)Z"⟩
abbrev cFR_readKind : ByteArray := prog_4_method_3_code
abbrev wsFR_readKind : List Cond := .code yFR_readKind cFR_readKind 3 (some .boolean) :: zT
set_option maxRecDepth 100000 in
theorem zc_FR_readKind : Cond.code yFR_readKind cFR_readKind 3 (some .boolean) ∈ zT := zm 513 (by rfl) (by rfl)
theorem dFR_readKind_0 : decode cFR_readKind 0 = .ok (.iconst 0, 1) := by decide +kernel
theorem dFR_readKind_1 : decode cFR_readKind 1 = .ok (.istore_n 2, 1) := by decide +kernel
theorem dFR_readKind_2 : decode cFR_readKind 2 = .ok (.iload_n 2, 1) := by decide +kernel
theorem dFR_readKind_3 : decode cFR_readKind 3 = .ok (.getstatic 39, 3) := by decide +kernel
theorem dFR_readKind_6 : decode cFR_readKind 6 = .ok (.arraylength, 1) := by decide +kernel
theorem dFR_readKind_7 : decode cFR_readKind 7 = .ok (.if_icmp .ge 38, 3) := by decide +kernel
theorem dFR_readKind_10 : decode cFR_readKind 10 = .ok (.aload_n 0, 1) := by decide +kernel
theorem dFR_readKind_11 : decode cFR_readKind 11 = .ok (.getfield 12, 3) := by decide +kernel
theorem dFR_readKind_14 : decode cFR_readKind 14 = .ok (.getstatic 39, 3) := by decide +kernel
theorem dFR_readKind_17 : decode cFR_readKind 17 = .ok (.iload_n 2, 1) := by decide +kernel
theorem dFR_readKind_18 : decode cFR_readKind 18 = .ok (.aaload, 1) := by decide +kernel
theorem dFR_readKind_19 : decode cFR_readKind 19 = .ok (.getfield 43, 3) := by decide +kernel
theorem dFR_readKind_22 : decode cFR_readKind 22 = .ok (.invokevirtual 49, 3) := by decide +kernel
theorem dFR_readKind_25 : decode cFR_readKind 25 = .ok (.ifCond .eq 14, 3) := by decide +kernel
theorem dFR_readKind_28 : decode cFR_readKind 28 = .ok (.aload_n 1, 1) := by decide +kernel
theorem dFR_readKind_29 : decode cFR_readKind 29 = .ok (.getstatic 39, 3) := by decide +kernel
theorem dFR_readKind_32 : decode cFR_readKind 32 = .ok (.iload_n 2, 1) := by decide +kernel
theorem dFR_readKind_33 : decode cFR_readKind 33 = .ok (.aaload, 1) := by decide +kernel
theorem dFR_readKind_34 : decode cFR_readKind 34 = .ok (.invokevirtual 53, 3) := by decide +kernel
theorem dFR_readKind_37 : decode cFR_readKind 37 = .ok (.iconst 1, 1) := by decide +kernel
theorem dFR_readKind_38 : decode cFR_readKind 38 = .ok (.ireturn, 1) := by decide +kernel
theorem dFR_readKind_39 : decode cFR_readKind 39 = .ok (.iinc 2 1, 3) := by decide +kernel
theorem dFR_readKind_42 : decode cFR_readKind 42 = .ok (.goto (-40), 3) := by decide +kernel
theorem dFR_readKind_45 : decode cFR_readKind 45 = .ok (.iconst 0, 1) := by decide +kernel
theorem dFR_readKind_46 : decode cFR_readKind 46 = .ok (.ireturn, 1) := by decide +kernel
-- FootprintRules$FamilyReader.readKind(LFootprintRules$Family;)Z
abbrev w_FR_readKind (ad : Nat → Nat → Nat) (a_this : Nat) (a_words : Nat) (a_words_units : Nat) (a_p1 : Nat) (a_p1_values : Nat) (a_p1_letters : Nat) (k_words_units : ClassId) (k_p1_values : ClassId) (k_p1_letters : ClassId) (v_this_toldKeys : Int32) (v_words_length : Int32) (v_words_start : Int32) (v_words_end : Int32) (v_words_place : Int32) (v_words_units : Nat → Int32) (v_p1_letterCount : Int32) (v_p1_kind : Nat) (v_p1_values : Nat → Int32) (v_p1_letters : Nat → Int32) : va_W := [(a_this, .inr (1, [.ref a_words, .int v_this_toldKeys])), (a_words, .inr (0, [.ref a_words_units, .int v_words_length, .int v_words_start, .int v_words_end, .int v_words_place])), (a_words_units, .inl (k_words_units, 600, .inl v_words_units)), (a_p1, .inr (2, [.ref a_p1_values, .ref a_p1_letters, .int v_p1_letterCount, .ref (ad 0 v_p1_kind)])), (a_p1_values, .inl (k_p1_values, 18, .inl v_p1_values)), (a_p1_letters, .inl (k_p1_letters, 4, .inl v_p1_letters))]
def P_FR_readKind_2 (v_words_start : Int32) (v_words_end : Int32) (v_words_units : Nat → Int32) (v_p1_letterCount : Int32) (v_p1_kind : Nat) (v_p1_values : Nat → Int32) (v_p1_letters : Nat → Int32) (post : Int32 → Int32 → Nat → (Nat → Int32) → (Nat → Int32) → Prop) : Nat → Int32 → Prop
  | 0, _ => False
  | n + 1, y2 => ((5 ≤ y2 → post 0 v_p1_letterCount v_p1_kind v_p1_values v_p1_letters) ∧ (¬ 5 ≤ y2 → vp_in y2 5 ∧ y2.toNatClampNeg < 5 ∧ P_Wo_are (zKind_word.getD y2.toNatClampNeg 0) v_words_start v_words_end v_words_units (fun (r4 : Int32) => ((r4 = 0 → ∀ x6 : Int32, x6 = y2 + 1 → P_FR_readKind_2 v_words_start v_words_end v_words_units v_p1_letterCount v_p1_kind v_p1_values v_p1_letters post n x6) ∧ (¬ r4 = 0 → vp_in y2 5 ∧ P_Fa_begin y2.toNatClampNeg v_p1_values v_p1_letters (fun (u8 : Int32) (u9 : Nat) (u10 : Nat → Int32) (u11 : Nat → Int32) => post 1 u8 u9 u10 u11))))))
set_option maxHeartbeats 4000000 in
set_option maxRecDepth 100000 in
theorem w_FR_readKind_2 (l : Launch) {p : Program} {e : Env} {s : State} {m : MethodId} {args : Array Value} {below : List Frame} {meth : Method} {c : Code} {dC : Nat → ClassId} {dI : Nat → Nat → Nat} {ad : Nat → Nat → Nat} {A : Nat → Prop} (C0 : zC p s m args meth c cFR_readKind 3 RFR zT (some .boolean) A) (hE : zE ad A s) (a_this : Nat) (a_words : Nat) (a_words_units : Nat) (a_p1 : Nat) (a_p1_values : Nat) (a_p1_letters : Nat) (k_words_units : ClassId) (k_p1_values : ClassId) (k_p1_letters : ClassId) (v_this_toldKeys : Int32) (v_words_length : Int32) (v_words_start : Int32) (v_words_end : Int32) (v_words_place : Int32) (v_words_units : Nat → Int32) (v_p1_letterCount : Int32) (v_p1_kind : Nat) (v_p1_values : Nat → Int32) (v_p1_letters : Nat → Int32) (post : Int32 → Int32 → Nat → (Nat → Int32) → (Nat → Int32) → Prop) (hK : va_K (dC, dI) vwCl [(k_words_units, .char), (k_p1_values, .int), (k_p1_letters, .char)] s) : ∀ (n : Nat), ∀ (y2 : Int32) (H : Heap) (locs : List Loc), P_FR_readKind_2 v_words_start v_words_end v_words_units v_p1_letterCount v_p1_kind v_p1_values v_p1_letters post n y2 → va_P (dC, dI) vwCl (w_FR_readKind ad a_this a_words a_words_units a_p1 a_p1_values a_p1_letters k_words_units k_p1_values k_p1_letters v_this_toldKeys v_words_length v_words_start v_words_end v_words_place v_words_units v_p1_letterCount v_p1_kind v_p1_values v_p1_letters) H → va_D A (w_FR_readKind ad a_this a_words a_words_units a_p1 a_p1_values a_p1_letters k_words_units k_p1_values k_p1_letters v_this_toldKeys v_words_length v_words_start v_words_end v_words_place v_words_units v_p1_letterCount v_p1_kind v_p1_values v_p1_letters) → va_S A s.heap H locs → ∀ ls : Array Slot, lv_has ls 3 [(0, .ref a_this), (1, .ref a_p1), (2, .int y2)] → W p l e (headSpec wsFR_readKind { frames := 5, cells := 0, slots := 0, locals := 107 }).room s m args below meth c H locs 0 0 (MQ below (va_Qi (fun (r : Int32) (u : Int32 × Nat × (Nat → Int32) × (Nat → Int32)) => post r u.1 u.2.1 u.2.2.1 u.2.2.2) (zB (dC, dI) A (fun (u : Int32 × Nat × (Nat → Int32) × (Nat → Int32)) => (w_FR_readKind ad a_this a_words a_words_units a_p1 a_p1_values a_p1_letters k_words_units k_p1_values k_p1_letters v_this_toldKeys v_words_length v_words_start v_words_end v_words_place v_words_units u.1 u.2.1 u.2.2.1 u.2.2.2))) A) args s 0 0 A) (F0 m 2 ls []) := by
  obtain ⟨hx, hb, hr, hml, hown, hts, hlocks, hA⟩ := id C0
  intro n
  induction n with
  | zero =>
    intro y2 H locs h
    exact False.elim h
  | succ n ih =>
    intro y2 H locs h hP hD hS ls hl
    rw [P_FR_readKind_2] at h
    refine lv_iload_n hx hb dFR_readKind_2 rfl (lv_at hl 2 rfl) ?_
    refine va_getsN hx hb hE.stKINDS hS hown ((hE.nw _ zn_514).use rfl) (fun _ h9 => h9) dFR_readKind_3 ?_
    refine va_tlen (v := 5) hx hb hE.tab0 hS (by decide) dFR_readKind_6 ?_
    refine lv_icmp_ge (tgt := 45) hx hb dFR_readKind_7 (by decide) ?_ ?_
    · intro c1
      replace h := h.1 c1
      refine lv_iconst (v := 0) hx hb dFR_readKind_45 (by decide) ?_
      exact W.zret (v := 0) hx hb hr rfl (fun t ht hW => ⟨⟨0, (v_p1_letterCount, v_p1_kind, v_p1_values, v_p1_letters), rfl, h, by rw [ht]; exact hP, hD⟩, hS.F ht⟩) hS.2.2 dFR_readKind_46
    · intro c1
      replace h := h.2 c1
      refine lv_aload_n hx hb dFR_readKind_10 rfl (lv_at hl 0 rfl) ?_
      refine va_get (D := (dC, dI)) (ci := 1) (v := .ref a_words) (C := RFR) (T := TFR) (N := 2) hx hb hts inZ_FR hown hK hP 0 rfl rfl 0 (by decide) (hts _ zw_158) (fun _ h9 => h9) rfl dFR_readKind_11 ?_
      refine va_getsN hx hb hE.stKINDS hS hown ((hE.nw _ zn_514).use rfl) (fun _ h9 => h9) dFR_readKind_14 ?_
      refine lv_iload_n hx hb dFR_readKind_17 rfl (lv_at hl 2 rfl) ?_
      obtain ⟨hn2, h⟩ := h
      refine vb_tq hx hb hE.tab0 hS hn2 rfl dFR_readKind_18 ?_
      obtain ⟨hn3, h⟩ := h
      refine zz_getON (o := "FootprintRules$Kind") (n := "word") (d := "Ljava/lang/String;") (v := .ref (ad 2 (zKind_word.getD y2.toNatClampNeg 0))) hx hb (hE.fKind_word y2.toNatClampNeg hn3) hS hown ((hE.nw _ zn_1330).use rfl) (fun _ h9 => h9) dFR_readKind_19 ?_
      refine zcall_i hP hD hS hA [1, 2] [0, 3, 4, 5] (va_runVN (As := [.ref (ad 2 (zKind_word.getD y2.toNatClampNeg 0))]) (rest := []) ⟨hx, hb, hml, hown, hts⟩ (c_Wo_are l dC dI ad a_words a_words_units k_words_units _ (zKind_word.getD y2.toNatClampNeg 0) v_words_length v_words_start v_words_end v_words_place v_words_units _ h) ⟨va_cnB 1 hts (zgood zc_Wo_are) rfl rfl rfl (hE.nw _ zn_516) (hts _ zw_97) (by decide +kernel) ⟨Nat.le_of_ble_eq_true rfl, Nat.le_of_ble_eq_true rfl⟩, (hts _ zw_518), (hts _ zw_10)⟩ (zpreV hE hK hP hD hS hA [1, 2] [0] (by rfl) (by rfl) (by decide) (ci := 0) (q0 := 1) rfl (by rfl)) rfl rfl hl.1 rfl (lv_room (Nat.le_of_ble_eq_true rfl)) dFR_readKind_22 ⟨Nat.le_of_ble_eq_true rfl, Nat.le_of_ble_eq_true rfl⟩) (by rfl) (by rfl) (by decide) (by decide) (fun r4 u H locs h hP hD hS => ?_)
      try dsimp only at h
      have hP := hP.sub (ws' := (w_FR_readKind ad a_this a_words a_words_units a_p1 a_p1_values a_p1_letters k_words_units k_p1_values k_p1_letters v_this_toldKeys v_words_length v_words_start v_words_end v_words_place v_words_units v_p1_letterCount v_p1_kind v_p1_values v_p1_letters)) [0, 4, 5, 1, 2, 3] rfl
      have hD := hD.sub (ws' := (w_FR_readKind ad a_this a_words a_words_units a_p1 a_p1_values a_p1_letters k_words_units k_p1_values k_p1_letters v_this_toldKeys v_words_length v_words_start v_words_end v_words_place v_words_units v_p1_letterCount v_p1_kind v_p1_values v_p1_letters)) [0, 4, 5, 1, 2, 3] (by decide) rfl
      refine lv_if_eq (tgt := 39) hx hb dFR_readKind_25 (by decide) ?_ ?_
      · intro c5
        replace h := h.1 c5
        obtain ⟨x6, ex6⟩ : ∃ y : Int32, y = y2 + 1 := ⟨_, rfl⟩
        replace h := h x6 ex6
        refine lv_iinc (v := x6) (lv' := [(2, .int x6), (0, .ref a_this), (1, .ref a_p1)]) hx hb dFR_readKind_39 hl (k := 2) rfl (by rw [ex6]; rfl) (by decide) rfl (fun ls hl => ?_)
        refine lv_goto (tgt := 2) hx hb dFR_readKind_42 (by decide) ?_
        exact ih x6 _ _ h hP hD hS ls (lv_sub hl [1, 2, 0] rfl)
      · intro c5
        replace h := h.2 c5
        refine lv_aload_n hx hb dFR_readKind_28 rfl (lv_at hl 1 rfl) ?_
        refine va_getsN hx hb hE.stKINDS hS hown ((hE.nw _ zn_514).use rfl) (fun _ h9 => h9) dFR_readKind_29 ?_
        refine lv_iload_n hx hb dFR_readKind_32 rfl (lv_at hl 2 rfl) ?_
        obtain ⟨hn7, h⟩ := h
        refine vb_tq hx hb hE.tab0 hS hn7 rfl dFR_readKind_33 ?_
        refine zcall_v hP hD hS hA [3, 4, 5] [0, 1, 2] (va_runVN (As := [.ref (ad 0 y2.toNatClampNeg)]) (rest := []) ⟨hx, hb, hml, hown, hts⟩ (c_Fa_begin l dC dI ad a_p1 a_p1_values a_p1_letters k_p1_values k_p1_letters _ y2.toNatClampNeg v_p1_letterCount v_p1_kind v_p1_values v_p1_letters _ h) ⟨va_cnB 1 hts (zgood zc_Fa_begin) rfl rfl rfl (hE.nw _ zn_576) (hts _ zw_102) (by decide +kernel) ⟨Nat.le_of_ble_eq_true rfl, Nat.le_of_ble_eq_true rfl⟩, (hts _ zw_578), (hts _ zw_13)⟩ (zpreV hE hK hP hD hS hA [3, 4, 5] [1, 2] (by rfl) (by rfl) (by decide) (ci := 2) (q0 := 3) rfl (by rfl)) rfl rfl hl.1 rfl (lv_room (Nat.le_of_ble_eq_true rfl)) dFR_readKind_34 ⟨Nat.le_of_ble_eq_true rfl, Nat.le_of_ble_eq_true rfl⟩) (by rfl) (by rfl) (by decide) (by decide) (fun u H locs h hP hD hS => ?_)
        obtain ⟨u8, u9, u10, u11⟩ := u
        try dsimp only at h
        have hP := hP.sub (ws' := (w_FR_readKind ad a_this a_words a_words_units a_p1 a_p1_values a_p1_letters k_words_units k_p1_values k_p1_letters v_this_toldKeys v_words_length v_words_start v_words_end v_words_place v_words_units u8 u9 u10 u11)) [0, 1, 2, 3, 4, 5] rfl
        have hD := hD.sub (ws' := (w_FR_readKind ad a_this a_words a_words_units a_p1 a_p1_values a_p1_letters k_words_units k_p1_values k_p1_letters v_this_toldKeys v_words_length v_words_start v_words_end v_words_place v_words_units u8 u9 u10 u11)) [0, 1, 2, 3, 4, 5] (by decide) rfl
        refine lv_iconst (v := 1) hx hb dFR_readKind_37 (by decide) ?_
        exact W.zret (v := 1) hx hb hr rfl (fun t ht hW => ⟨⟨1, (u8, u9, u10, u11), rfl, h, by rw [ht]; exact hP, hD⟩, hS.F ht⟩) hS.2.2 dFR_readKind_38
def P_FR_readKind (v_words_start : Int32) (v_words_end : Int32) (v_words_units : Nat → Int32) (v_p1_letterCount : Int32) (v_p1_kind : Nat) (v_p1_values : Nat → Int32) (v_p1_letters : Nat → Int32) (post : Int32 → Int32 → Nat → (Nat → Int32) → (Nat → Int32) → Prop) : Prop := ∃ n1, P_FR_readKind_2 v_words_start v_words_end v_words_units v_p1_letterCount v_p1_kind v_p1_values v_p1_letters post n1 0
set_option maxHeartbeats 4000000 in
set_option maxRecDepth 100000 in
theorem c_FR_readKind (l : Launch) (dC : Nat → ClassId) (dI : Nat → Nat → Nat) (ad : Nat → Nat → Nat) (a_this : Nat) (a_words : Nat) (a_words_units : Nat) (a_p1 : Nat) (a_p1_values : Nat) (a_p1_letters : Nat) (k_words_units : ClassId) (k_p1_values : ClassId) (k_p1_letters : ClassId) (sz : Nat) (v_this_toldKeys : Int32) (v_words_length : Int32) (v_words_start : Int32) (v_words_end : Int32) (v_words_place : Int32) (v_words_units : Nat → Int32) (v_p1_letterCount : Int32) (v_p1_kind : Nat) (v_p1_values : Nat → Int32) (v_p1_letters : Nat → Int32) (post : Int32 → Int32 → Nat → (Nat → Int32) → (Nat → Int32) → Prop) (h : P_FR_readKind v_words_start v_words_end v_words_units v_p1_letterCount v_p1_kind v_p1_values v_p1_letters post) : zMi l yFR_readKind wsFR_readKind { frames := 5, cells := 0, slots := 0, locals := 107 } (dC, dI) ad [.ref a_this, .ref a_p1] (w_FR_readKind ad a_this a_words a_words_units a_p1 a_p1_values a_p1_letters k_words_units k_p1_values k_p1_letters v_this_toldKeys v_words_length v_words_start v_words_end v_words_place v_words_units v_p1_letterCount v_p1_kind v_p1_values v_p1_letters) [(k_words_units, .char), (k_p1_values, .int), (k_p1_letters, .char)] sz (fun (r : Int32) (u : Int32 × Nat × (Nat → Int32) × (Nat → Int32)) => post r u.1 u.2.1 u.2.2.1 u.2.2.2) (fun (u : Int32 × Nat × (Nat → Int32) × (Nat → Int32)) => (w_FR_readKind ad a_this a_words a_words_units a_p1 a_p1_values a_p1_letters k_words_units k_p1_values k_p1_letters v_this_toldKeys v_words_length v_words_start v_words_end v_words_place v_words_units u.1 u.2.1 u.2.2.1 u.2.2.2)) 0 0 := by
  refine Met.ofW (cc := cFR_readKind) (maxL := 3) (ret := (some .boolean)) (by decide +kernel) rfl ?_
  intro p e s m args below meth c s₁ B hml hv
  obtain ⟨rfl, hsz, hP, hK, hD0, hE⟩ := hv
  have hx := B.exec
  have hb := B.bytes
  have hr := B.returns
  have hts0 := atoms_spec (ws := wsFR_readKind) B.pre
  have hts := fun w h => hts0 w (List.mem_cons_of_mem _ h)
  have hown : s.vm.findClass RFR = some m.cls := findClass_of_methodNamed B.named
  have hlocks := B.notSynchronized
  subst hsz
  have hD := hD0.self (sz := s.heap.size)
  generalize hAe : va_A (w_FR_readKind ad a_this a_words a_words_units a_p1 a_p1_values a_p1_letters k_words_units k_p1_values k_p1_letters v_this_toldKeys v_words_length v_words_start v_words_end v_words_place v_words_units v_p1_letterCount v_p1_kind v_p1_values v_p1_letters) s.heap.size = A at hD hE ⊢
  have hA : ∀ q : Nat, s.heap.size ≤ q → A q := fun q h => by rw [← hAe]; exact Or.inr h
  have C0 := zC.mk hx hb hr hml hown hts hlocks hA
  have hS : va_S A s.heap s.heap [] := va_S.rf
  have hl := lv_entry ([.ref a_this, .ref a_p1]) (n := 3) (Nat.le_of_ble_eq_true rfl)
  rw [lg_entry_eq]
  generalize (lg_sl ([.ref a_this, .ref a_p1]) ++ List.replicate (3 - (lg_sl ([.ref a_this, .ref a_p1])).length) Slot.unset).toArray = ls at hl ⊢
  have hl : lv_has ls 3 [(0, .ref a_this), (1, .ref a_p1)] := hl
  unfold P_FR_readKind at h
  refine lv_iconst (v := 0) hx hb dFR_readKind_0 (by decide) ?_
  refine lv_istore_n (lv' := [(2, .int 0), (0, .ref a_this), (1, .ref a_p1)]) hx hb dFR_readKind_1 rfl hl (by decide) rfl (fun ls hl => ?_)
  obtain ⟨n1, h⟩ := h
  exact w_FR_readKind_2 l C0 hE a_this a_words a_words_units a_p1 a_p1_values a_p1_letters k_words_units k_p1_values k_p1_letters v_this_toldKeys v_words_length v_words_start v_words_end v_words_place v_words_units v_p1_letterCount v_p1_kind v_p1_values v_p1_letters post hK n1 0 _ _ h hP hD hS ls (lv_sub hl [1, 2, 0] rfl)
abbrev yFR_readLetters : MethodName := ⟨"FootprintRules$FamilyReader", "readLetters", "(LFootprintRules$Family;)Z"⟩
abbrev cFR_readLetters : ByteArray := prog_4_method_6_code
abbrev wsFR_readLetters : List Cond := .code yFR_readLetters cFR_readLetters 3 (some .boolean) :: zT
set_option maxRecDepth 100000 in
theorem zc_FR_readLetters : Cond.code yFR_readLetters cFR_readLetters 3 (some .boolean) ∈ zT := zm 607 (by rfl) (by rfl)
theorem dFR_readLetters_0 : decode cFR_readLetters 0 = .ok (.aload_n 0, 1) := by decide +kernel
theorem dFR_readLetters_1 : decode cFR_readLetters 1 = .ok (.getfield 12, 3) := by decide +kernel
theorem dFR_readLetters_4 : decode cFR_readLetters 4 = .ok (.invokevirtual 92, 3) := by decide +kernel
theorem dFR_readLetters_7 : decode cFR_readLetters 7 = .ok (.iconst 4, 1) := by decide +kernel
theorem dFR_readLetters_8 : decode cFR_readLetters 8 = .ok (.if_icmp .gt 17, 3) := by decide +kernel
theorem dFR_readLetters_11 : decode cFR_readLetters 11 = .ok (.aload_n 0, 1) := by decide +kernel
theorem dFR_readLetters_12 : decode cFR_readLetters 12 = .ok (.getfield 12, 3) := by decide +kernel
theorem dFR_readLetters_15 : decode cFR_readLetters 15 = .ok (.bipush 65, 2) := by decide +kernel
theorem dFR_readLetters_17 : decode cFR_readLetters 17 = .ok (.bipush 90, 2) := by decide +kernel
theorem dFR_readLetters_19 : decode cFR_readLetters 19 = .ok (.invokevirtual 95, 3) := by decide +kernel
theorem dFR_readLetters_22 : decode cFR_readLetters 22 = .ok (.ifCond .ne 5, 3) := by decide +kernel
theorem dFR_readLetters_25 : decode cFR_readLetters 25 = .ok (.iconst 0, 1) := by decide +kernel
theorem dFR_readLetters_26 : decode cFR_readLetters 26 = .ok (.ireturn, 1) := by decide +kernel
theorem dFR_readLetters_27 : decode cFR_readLetters 27 = .ok (.aload_n 1, 1) := by decide +kernel
theorem dFR_readLetters_28 : decode cFR_readLetters 28 = .ok (.iconst 0, 1) := by decide +kernel
theorem dFR_readLetters_29 : decode cFR_readLetters 29 = .ok (.putfield 99, 3) := by decide +kernel
theorem dFR_readLetters_32 : decode cFR_readLetters 32 = .ok (.iconst 0, 1) := by decide +kernel
theorem dFR_readLetters_33 : decode cFR_readLetters 33 = .ok (.istore_n 2, 1) := by decide +kernel
theorem dFR_readLetters_34 : decode cFR_readLetters 34 = .ok (.iload_n 2, 1) := by decide +kernel
theorem dFR_readLetters_35 : decode cFR_readLetters 35 = .ok (.aload_n 0, 1) := by decide +kernel
theorem dFR_readLetters_36 : decode cFR_readLetters 36 = .ok (.getfield 12, 3) := by decide +kernel
theorem dFR_readLetters_39 : decode cFR_readLetters 39 = .ok (.invokevirtual 92, 3) := by decide +kernel
theorem dFR_readLetters_42 : decode cFR_readLetters 42 = .ok (.if_icmp .ge 21, 3) := by decide +kernel
theorem dFR_readLetters_45 : decode cFR_readLetters 45 = .ok (.aload_n 1, 1) := by decide +kernel
theorem dFR_readLetters_46 : decode cFR_readLetters 46 = .ok (.aload_n 0, 1) := by decide +kernel
theorem dFR_readLetters_47 : decode cFR_readLetters 47 = .ok (.getfield 12, 3) := by decide +kernel
theorem dFR_readLetters_50 : decode cFR_readLetters 50 = .ok (.iload_n 2, 1) := by decide +kernel
theorem dFR_readLetters_51 : decode cFR_readLetters 51 = .ok (.invokevirtual 102, 3) := by decide +kernel
theorem dFR_readLetters_54 : decode cFR_readLetters 54 = .ok (.invokevirtual 106, 3) := by decide +kernel
theorem dFR_readLetters_57 : decode cFR_readLetters 57 = .ok (.iinc 2 1, 3) := by decide +kernel
theorem dFR_readLetters_60 : decode cFR_readLetters 60 = .ok (.goto (-26), 3) := by decide +kernel
theorem dFR_readLetters_63 : decode cFR_readLetters 63 = .ok (.iconst 1, 1) := by decide +kernel
theorem dFR_readLetters_64 : decode cFR_readLetters 64 = .ok (.ireturn, 1) := by decide +kernel
-- FootprintRules$FamilyReader.readLetters(LFootprintRules$Family;)Z
abbrev w_FR_readLetters (ad : Nat → Nat → Nat) (a_this : Nat) (a_words : Nat) (a_words_units : Nat) (a_p1 : Nat) (a_p1_values : Nat) (a_p1_letters : Nat) (k_words_units : ClassId) (k_p1_letters : ClassId) (v_this_toldKeys : Int32) (v_words_length : Int32) (v_words_start : Int32) (v_words_end : Int32) (v_words_place : Int32) (v_words_units : Nat → Int32) (v_p1_letterCount : Int32) (v_p1_kind : Nat) (v_p1_letters : Nat → Int32) : va_W := [(a_this, .inr (1, [.ref a_words, .int v_this_toldKeys])), (a_words, .inr (0, [.ref a_words_units, .int v_words_length, .int v_words_start, .int v_words_end, .int v_words_place])), (a_words_units, .inl (k_words_units, 600, .inl v_words_units)), (a_p1, .inr (2, [.ref a_p1_values, .ref a_p1_letters, .int v_p1_letterCount, .ref (ad 0 v_p1_kind)])), (a_p1_letters, .inl (k_p1_letters, 4, .inl v_p1_letters))]
def P_FR_readLetters_34 (v_words_start : Int32) (v_words_end : Int32) (v_words_units : Nat → Int32) (post : Int32 → Int32 → (Nat → Int32) → Prop) : Nat → Int32 → Int32 → (Nat → Int32) → Prop
  | 0, _, _, _ => False
  | n + 1, y2, u_p1_letterCount, u_p1_letters => P_Wo_size v_words_start v_words_end (fun (r1 : Int32) => ((r1 ≤ y2 → post 1 u_p1_letterCount u_p1_letters) ∧ (¬ r1 ≤ y2 → P_Wo_at y2 v_words_start v_words_units (fun (r3 : Int32) => P_Fa_addLetter r3 u_p1_letterCount u_p1_letters (fun (u4 : Int32) (u5 : Nat → Int32) => ∀ x6 : Int32, x6 = y2 + 1 → P_FR_readLetters_34 v_words_start v_words_end v_words_units post n x6 u4 u5)))))
set_option maxHeartbeats 4000000 in
set_option maxRecDepth 100000 in
theorem w_FR_readLetters_34 (l : Launch) {p : Program} {e : Env} {s : State} {m : MethodId} {args : Array Value} {below : List Frame} {meth : Method} {c : Code} {dC : Nat → ClassId} {dI : Nat → Nat → Nat} {ad : Nat → Nat → Nat} {A : Nat → Prop} (C0 : zC p s m args meth c cFR_readLetters 3 RFR zT (some .boolean) A) (hE : zE ad A s) (a_this : Nat) (a_words : Nat) (a_words_units : Nat) (a_p1 : Nat) (a_p1_values : Nat) (a_p1_letters : Nat) (k_words_units : ClassId) (k_p1_letters : ClassId) (v_this_toldKeys : Int32) (v_words_length : Int32) (v_words_start : Int32) (v_words_end : Int32) (v_words_place : Int32) (v_words_units : Nat → Int32) (v_p1_letterCount : Int32) (v_p1_kind : Nat) (v_p1_letters : Nat → Int32) (post : Int32 → Int32 → (Nat → Int32) → Prop) (hK : va_K (dC, dI) vwCl [(k_words_units, .char), (k_p1_letters, .char)] s) : ∀ (n : Nat), ∀ (y2 : Int32) (u_p1_letterCount : Int32) (u_p1_letters : Nat → Int32) (H : Heap) (locs : List Loc), P_FR_readLetters_34 v_words_start v_words_end v_words_units post n y2 u_p1_letterCount u_p1_letters → va_P (dC, dI) vwCl (w_FR_readLetters ad a_this a_words a_words_units a_p1 a_p1_values a_p1_letters k_words_units k_p1_letters v_this_toldKeys v_words_length v_words_start v_words_end v_words_place v_words_units u_p1_letterCount v_p1_kind u_p1_letters) H → va_D A (w_FR_readLetters ad a_this a_words a_words_units a_p1 a_p1_values a_p1_letters k_words_units k_p1_letters v_this_toldKeys v_words_length v_words_start v_words_end v_words_place v_words_units u_p1_letterCount v_p1_kind u_p1_letters) → va_S A s.heap H locs → ∀ ls : Array Slot, lv_has ls 3 [(0, .ref a_this), (1, .ref a_p1), (2, .int y2)] → W p l e (headSpec wsFR_readLetters { frames := 2, cells := 0, slots := 0, locals := 45 }).room s m args below meth c H locs 0 0 (MQ below (va_Qi (fun (r : Int32) (u : Int32 × (Nat → Int32)) => post r u.1 u.2) (zB (dC, dI) A (fun (u : Int32 × (Nat → Int32)) => (w_FR_readLetters ad a_this a_words a_words_units a_p1 a_p1_values a_p1_letters k_words_units k_p1_letters v_this_toldKeys v_words_length v_words_start v_words_end v_words_place v_words_units u.1 v_p1_kind u.2))) A) args s 0 0 A) (F0 m 34 ls []) := by
  obtain ⟨hx, hb, hr, hml, hown, hts, hlocks, hA⟩ := id C0
  intro n
  induction n with
  | zero =>
    intro y2 u_p1_letterCount u_p1_letters H locs h
    exact False.elim h
  | succ n ih =>
    intro y2 u_p1_letterCount u_p1_letters H locs h hP hD hS ls hl
    rw [P_FR_readLetters_34] at h
    refine lv_iload_n hx hb dFR_readLetters_34 rfl (lv_at hl 2 rfl) ?_
    refine lv_aload_n hx hb dFR_readLetters_35 rfl (lv_at hl 0 rfl) ?_
    refine va_get (D := (dC, dI)) (ci := 1) (v := .ref a_words) (C := RFR) (T := TFR) (N := 2) hx hb hts inZ_FR hown hK hP 0 rfl rfl 0 (by decide) (hts _ zw_158) (fun _ h9 => h9) rfl dFR_readLetters_36 ?_
    refine zcall_i hP hD hS hA [1] [0, 2, 3, 4] (va_runVN (As := []) (rest := [.int y2]) ⟨hx, hb, hml, hown, hts⟩ (c_Wo_size l dC dI ad a_words a_words_units _ v_words_length v_words_start v_words_end v_words_place _ h) ⟨va_cnB 0 hts (zgood zc_Wo_size) rfl rfl rfl (hE.nw _ zn_608) (hts _ zw_97) (by decide +kernel) ⟨Nat.le_of_ble_eq_true rfl, Nat.le_of_ble_eq_true rfl⟩, (hts _ zw_522), (hts _ zw_11)⟩ (zpreV hE hK hP hD hS hA [1] [] (by rfl) (by rfl) (by decide) (ci := 0) (q0 := 1) rfl (by rfl)) rfl rfl hl.1 rfl (lv_room (Nat.le_of_ble_eq_true rfl)) dFR_readLetters_39 ⟨Nat.le_of_ble_eq_true rfl, Nat.le_of_ble_eq_true rfl⟩) (by rfl) (by rfl) (by decide) (by decide) (fun r1 u H locs h hP hD hS => ?_)
    try dsimp only at h
    have hP := hP.sub (ws' := (w_FR_readLetters ad a_this a_words a_words_units a_p1 a_p1_values a_p1_letters k_words_units k_p1_letters v_this_toldKeys v_words_length v_words_start v_words_end v_words_place v_words_units u_p1_letterCount v_p1_kind u_p1_letters)) [0, 4, 1, 2, 3] rfl
    have hD := hD.sub (ws' := (w_FR_readLetters ad a_this a_words a_words_units a_p1 a_p1_values a_p1_letters k_words_units k_p1_letters v_this_toldKeys v_words_length v_words_start v_words_end v_words_place v_words_units u_p1_letterCount v_p1_kind u_p1_letters)) [0, 4, 1, 2, 3] (by decide) rfl
    refine lv_icmp_ge (tgt := 63) hx hb dFR_readLetters_42 (by decide) ?_ ?_
    · intro c2
      replace h := h.1 c2
      refine lv_iconst (v := 1) hx hb dFR_readLetters_63 (by decide) ?_
      exact W.zret (v := 1) hx hb hr rfl (fun t ht hW => ⟨⟨1, (u_p1_letterCount, u_p1_letters), rfl, h, by rw [ht]; exact hP, hD⟩, hS.F ht⟩) hS.2.2 dFR_readLetters_64
    · intro c2
      replace h := h.2 c2
      refine lv_aload_n hx hb dFR_readLetters_45 rfl (lv_at hl 1 rfl) ?_
      refine lv_aload_n hx hb dFR_readLetters_46 rfl (lv_at hl 0 rfl) ?_
      refine va_get (D := (dC, dI)) (ci := 1) (v := .ref a_words) (C := RFR) (T := TFR) (N := 2) hx hb hts inZ_FR hown hK hP 0 rfl rfl 0 (by decide) (hts _ zw_158) (fun _ h9 => h9) rfl dFR_readLetters_47 ?_
      refine lv_iload_n hx hb dFR_readLetters_50 rfl (lv_at hl 2 rfl) ?_
      refine zcall_i hP hD hS hA [1, 2] [0, 3, 4] (va_runVN (As := [.int y2]) (rest := [.ref a_p1]) ⟨hx, hb, hml, hown, hts⟩ (c_Wo_at l dC dI ad a_words a_words_units k_words_units _ y2 v_words_length v_words_start v_words_end v_words_place v_words_units _ h) ⟨va_cnB 1 hts (zgood zc_Wo_at) rfl rfl rfl (hE.nw _ zn_613) (hts _ zw_97) (by decide +kernel) ⟨Nat.le_of_ble_eq_true rfl, Nat.le_of_ble_eq_true rfl⟩, (hts _ zw_536), (hts _ zw_12)⟩ (zpreV hE hK hP hD hS hA [1, 2] [0] (by rfl) (by rfl) (by decide) (ci := 0) (q0 := 1) rfl (by rfl)) rfl rfl hl.1 rfl (lv_room (Nat.le_of_ble_eq_true rfl)) dFR_readLetters_51 ⟨Nat.le_of_ble_eq_true rfl, Nat.le_of_ble_eq_true rfl⟩) (by rfl) (by rfl) (by decide) (by decide) (fun r3 u H locs h hP hD hS => ?_)
      try dsimp only at h
      have hP := hP.sub (ws' := (w_FR_readLetters ad a_this a_words a_words_units a_p1 a_p1_values a_p1_letters k_words_units k_p1_letters v_this_toldKeys v_words_length v_words_start v_words_end v_words_place v_words_units u_p1_letterCount v_p1_kind u_p1_letters)) [0, 3, 4, 1, 2] rfl
      have hD := hD.sub (ws' := (w_FR_readLetters ad a_this a_words a_words_units a_p1 a_p1_values a_p1_letters k_words_units k_p1_letters v_this_toldKeys v_words_length v_words_start v_words_end v_words_place v_words_units u_p1_letterCount v_p1_kind u_p1_letters)) [0, 3, 4, 1, 2] (by decide) rfl
      refine zcall_v hP hD hS hA [3, 4] [0, 1, 2] (va_runVN (As := [.int r3]) (rest := []) ⟨hx, hb, hml, hown, hts⟩ (c_Fa_addLetter l dC dI ad a_p1 a_p1_values a_p1_letters k_p1_letters _ r3 u_p1_letterCount v_p1_kind u_p1_letters _ h) ⟨va_cnB 1 hts (zgood zc_Fa_addLetter) rfl rfl rfl (hE.nw _ zn_614) (hts _ zw_102) (by decide +kernel) ⟨Nat.le_of_ble_eq_true rfl, Nat.le_of_ble_eq_true rfl⟩, (hts _ zw_590), (hts _ zw_15)⟩ (zpreV hE hK hP hD hS hA [3, 4] [1] (by rfl) (by rfl) (by decide) (ci := 2) (q0 := 3) rfl (by rfl)) rfl rfl hl.1 rfl (lv_room (Nat.le_of_ble_eq_true rfl)) dFR_readLetters_54 ⟨Nat.le_of_ble_eq_true rfl, Nat.le_of_ble_eq_true rfl⟩) (by rfl) (by rfl) (by decide) (by decide) (fun u H locs h hP hD hS => ?_)
      obtain ⟨u4, u5⟩ := u
      try dsimp only at h
      have hP := hP.sub (ws' := (w_FR_readLetters ad a_this a_words a_words_units a_p1 a_p1_values a_p1_letters k_words_units k_p1_letters v_this_toldKeys v_words_length v_words_start v_words_end v_words_place v_words_units u4 v_p1_kind u5)) [0, 1, 2, 3, 4] rfl
      have hD := hD.sub (ws' := (w_FR_readLetters ad a_this a_words a_words_units a_p1 a_p1_values a_p1_letters k_words_units k_p1_letters v_this_toldKeys v_words_length v_words_start v_words_end v_words_place v_words_units u4 v_p1_kind u5)) [0, 1, 2, 3, 4] (by decide) rfl
      obtain ⟨x6, ex6⟩ : ∃ y : Int32, y = y2 + 1 := ⟨_, rfl⟩
      replace h := h x6 ex6
      refine lv_iinc (v := x6) (lv' := [(2, .int x6), (0, .ref a_this), (1, .ref a_p1)]) hx hb dFR_readLetters_57 hl (k := 2) rfl (by rw [ex6]; rfl) (by decide) rfl (fun ls hl => ?_)
      refine lv_goto (tgt := 34) hx hb dFR_readLetters_60 (by decide) ?_
      exact ih x6 u4 u5 _ _ h hP hD hS ls (lv_sub hl [1, 2, 0] rfl)
def P_FR_readLetters (v_words_start : Int32) (v_words_end : Int32) (v_words_units : Nat → Int32) (v_p1_letterCount : Int32) (v_p1_letters : Nat → Int32) (post : Int32 → Int32 → (Nat → Int32) → Prop) : Prop := P_Wo_size v_words_start v_words_end (fun (r1 : Int32) => ((4 < r1 → post 0 v_p1_letterCount v_p1_letters) ∧ (¬ 4 < r1 → P_Wo_areWithin 65 90 v_words_start v_words_end v_words_units (fun (r3 : Int32) => ((¬ r3 = 0 → ∃ n5, P_FR_readLetters_34 v_words_start v_words_end v_words_units post n5 0 0 v_p1_letters) ∧ (r3 = 0 → post 0 v_p1_letterCount v_p1_letters))))))
set_option maxHeartbeats 4000000 in
set_option maxRecDepth 100000 in
theorem c_FR_readLetters (l : Launch) (dC : Nat → ClassId) (dI : Nat → Nat → Nat) (ad : Nat → Nat → Nat) (a_this : Nat) (a_words : Nat) (a_words_units : Nat) (a_p1 : Nat) (a_p1_values : Nat) (a_p1_letters : Nat) (k_words_units : ClassId) (k_p1_letters : ClassId) (sz : Nat) (v_this_toldKeys : Int32) (v_words_length : Int32) (v_words_start : Int32) (v_words_end : Int32) (v_words_place : Int32) (v_words_units : Nat → Int32) (v_p1_letterCount : Int32) (v_p1_kind : Nat) (v_p1_letters : Nat → Int32) (post : Int32 → Int32 → (Nat → Int32) → Prop) (h : P_FR_readLetters v_words_start v_words_end v_words_units v_p1_letterCount v_p1_letters post) : zMi l yFR_readLetters wsFR_readLetters { frames := 2, cells := 0, slots := 0, locals := 45 } (dC, dI) ad [.ref a_this, .ref a_p1] (w_FR_readLetters ad a_this a_words a_words_units a_p1 a_p1_values a_p1_letters k_words_units k_p1_letters v_this_toldKeys v_words_length v_words_start v_words_end v_words_place v_words_units v_p1_letterCount v_p1_kind v_p1_letters) [(k_words_units, .char), (k_p1_letters, .char)] sz (fun (r : Int32) (u : Int32 × (Nat → Int32)) => post r u.1 u.2) (fun (u : Int32 × (Nat → Int32)) => (w_FR_readLetters ad a_this a_words a_words_units a_p1 a_p1_values a_p1_letters k_words_units k_p1_letters v_this_toldKeys v_words_length v_words_start v_words_end v_words_place v_words_units u.1 v_p1_kind u.2)) 0 0 := by
  refine Met.ofW (cc := cFR_readLetters) (maxL := 3) (ret := (some .boolean)) (by decide +kernel) rfl ?_
  intro p e s m args below meth c s₁ B hml hv
  obtain ⟨rfl, hsz, hP, hK, hD0, hE⟩ := hv
  have hx := B.exec
  have hb := B.bytes
  have hr := B.returns
  have hts0 := atoms_spec (ws := wsFR_readLetters) B.pre
  have hts := fun w h => hts0 w (List.mem_cons_of_mem _ h)
  have hown : s.vm.findClass RFR = some m.cls := findClass_of_methodNamed B.named
  have hlocks := B.notSynchronized
  subst hsz
  have hD := hD0.self (sz := s.heap.size)
  generalize hAe : va_A (w_FR_readLetters ad a_this a_words a_words_units a_p1 a_p1_values a_p1_letters k_words_units k_p1_letters v_this_toldKeys v_words_length v_words_start v_words_end v_words_place v_words_units v_p1_letterCount v_p1_kind v_p1_letters) s.heap.size = A at hD hE ⊢
  have hA : ∀ q : Nat, s.heap.size ≤ q → A q := fun q h => by rw [← hAe]; exact Or.inr h
  have C0 := zC.mk hx hb hr hml hown hts hlocks hA
  have hS : va_S A s.heap s.heap [] := va_S.rf
  have hl := lv_entry ([.ref a_this, .ref a_p1]) (n := 3) (Nat.le_of_ble_eq_true rfl)
  rw [lg_entry_eq]
  generalize (lg_sl ([.ref a_this, .ref a_p1]) ++ List.replicate (3 - (lg_sl ([.ref a_this, .ref a_p1])).length) Slot.unset).toArray = ls at hl ⊢
  have hl : lv_has ls 3 [(0, .ref a_this), (1, .ref a_p1)] := hl
  unfold P_FR_readLetters at h
  refine lv_aload_n hx hb dFR_readLetters_0 rfl (lv_at hl 0 rfl) ?_
  refine va_get (D := (dC, dI)) (ci := 1) (v := .ref a_words) (C := RFR) (T := TFR) (N := 2) hx hb hts inZ_FR hown hK hP 0 rfl rfl 0 (by decide) (hts _ zw_158) (fun _ h9 => h9) rfl dFR_readLetters_1 ?_
  refine zcall_i hP hD hS hA [1] [0, 2, 3, 4] (va_runVN (As := []) (rest := []) ⟨hx, hb, hml, hown, hts⟩ (c_Wo_size l dC dI ad a_words a_words_units _ v_words_length v_words_start v_words_end v_words_place _ h) ⟨va_cnB 0 hts (zgood zc_Wo_size) rfl rfl rfl (hE.nw _ zn_608) (hts _ zw_97) (by decide +kernel) ⟨Nat.le_of_ble_eq_true rfl, Nat.le_of_ble_eq_true rfl⟩, (hts _ zw_522), (hts _ zw_11)⟩ (zpreV hE hK hP hD hS hA [1] [] (by rfl) (by rfl) (by decide) (ci := 0) (q0 := 1) rfl (by rfl)) rfl rfl hl.1 rfl (lv_room (Nat.le_of_ble_eq_true rfl)) dFR_readLetters_4 ⟨Nat.le_of_ble_eq_true rfl, Nat.le_of_ble_eq_true rfl⟩) (by rfl) (by rfl) (by decide) (by decide) (fun r1 u H locs h hP hD hS => ?_)
  try dsimp only at h
  have hP := hP.sub (ws' := (w_FR_readLetters ad a_this a_words a_words_units a_p1 a_p1_values a_p1_letters k_words_units k_p1_letters v_this_toldKeys v_words_length v_words_start v_words_end v_words_place v_words_units v_p1_letterCount v_p1_kind v_p1_letters)) [0, 4, 1, 2, 3] rfl
  have hD := hD.sub (ws' := (w_FR_readLetters ad a_this a_words a_words_units a_p1 a_p1_values a_p1_letters k_words_units k_p1_letters v_this_toldKeys v_words_length v_words_start v_words_end v_words_place v_words_units v_p1_letterCount v_p1_kind v_p1_letters)) [0, 4, 1, 2, 3] (by decide) rfl
  refine lv_iconst (v := 4) hx hb dFR_readLetters_7 (by decide) ?_
  refine lv_icmp_gt (tgt := 25) hx hb dFR_readLetters_8 (by decide) ?_ ?_
  · intro c2
    replace h := h.1 c2
    refine lv_iconst (v := 0) hx hb dFR_readLetters_25 (by decide) ?_
    exact W.zret (v := 0) hx hb hr rfl (fun t ht hW => ⟨⟨0, (v_p1_letterCount, v_p1_letters), rfl, h, by rw [ht]; exact hP, hD⟩, hS.F ht⟩) hS.2.2 dFR_readLetters_26
  · intro c2
    replace h := h.2 c2
    refine lv_aload_n hx hb dFR_readLetters_11 rfl (lv_at hl 0 rfl) ?_
    refine va_get (D := (dC, dI)) (ci := 1) (v := .ref a_words) (C := RFR) (T := TFR) (N := 2) hx hb hts inZ_FR hown hK hP 0 rfl rfl 0 (by decide) (hts _ zw_158) (fun _ h9 => h9) rfl dFR_readLetters_12 ?_
    refine lv_bipush (v := 65) hx hb dFR_readLetters_15 (by decide) ?_
    refine lv_bipush (v := 90) hx hb dFR_readLetters_17 (by decide) ?_
    refine zcall_i hP hD hS hA [1, 2] [0, 3, 4] (va_runVN (As := [.int 65, .int 90]) (rest := []) ⟨hx, hb, hml, hown, hts⟩ (c_Wo_areWithin l dC dI ad a_words a_words_units k_words_units _ 65 90 v_words_length v_words_start v_words_end v_words_place v_words_units _ h) ⟨va_cnB 2 hts (zgood zc_Wo_areWithin) rfl rfl rfl (hE.nw _ zn_609) (hts _ zw_97) (by decide +kernel) ⟨Nat.le_of_ble_eq_true rfl, Nat.le_of_ble_eq_true rfl⟩, (hts _ zw_611), (hts _ zw_19)⟩ (zpreV hE hK hP hD hS hA [1, 2] [0] (by rfl) (by rfl) (by decide) (ci := 0) (q0 := 1) rfl (by rfl)) rfl rfl hl.1 rfl (lv_room (Nat.le_of_ble_eq_true rfl)) dFR_readLetters_19 ⟨Nat.le_of_ble_eq_true rfl, Nat.le_of_ble_eq_true rfl⟩) (by rfl) (by rfl) (by decide) (by decide) (fun r3 u H locs h hP hD hS => ?_)
    try dsimp only at h
    have hP := hP.sub (ws' := (w_FR_readLetters ad a_this a_words a_words_units a_p1 a_p1_values a_p1_letters k_words_units k_p1_letters v_this_toldKeys v_words_length v_words_start v_words_end v_words_place v_words_units v_p1_letterCount v_p1_kind v_p1_letters)) [0, 3, 4, 1, 2] rfl
    have hD := hD.sub (ws' := (w_FR_readLetters ad a_this a_words a_words_units a_p1 a_p1_values a_p1_letters k_words_units k_p1_letters v_this_toldKeys v_words_length v_words_start v_words_end v_words_place v_words_units v_p1_letterCount v_p1_kind v_p1_letters)) [0, 3, 4, 1, 2] (by decide) rfl
    refine lv_if_ne (tgt := 27) hx hb dFR_readLetters_22 (by decide) ?_ ?_
    · intro c4
      replace h := h.1 c4
      refine lv_aload_n hx hb dFR_readLetters_27 rfl (lv_at hl 1 rfl) ?_
      refine lv_iconst (v := 0) hx hb dFR_readLetters_28 (by decide) ?_
      refine va_putN (D := (dC, dI)) (ci := 2) (v := .int 0) (ty := .int) (C := RFa) (T := TFa) (N := 4) hx hb hts inZ_Fa tyFa tyFa_ok nmFa hown hK hP hD hS 3 rfl rfl 2 (by decide) ((hE.nw _ zn_229).use rfl) (fun _ h9 => h9) rfl (by decide +kernel) rfl rfl (Nat.le_of_ble_eq_true rfl) dFR_readLetters_29 (fun H locs hP hD hS => ?_)
      have hP : va_P (dC, dI) vwCl (w_FR_readLetters ad a_this a_words a_words_units a_p1 a_p1_values a_p1_letters k_words_units k_p1_letters v_this_toldKeys v_words_length v_words_start v_words_end v_words_place v_words_units 0 v_p1_kind v_p1_letters) H := hP
      have hD : va_D A (w_FR_readLetters ad a_this a_words a_words_units a_p1 a_p1_values a_p1_letters k_words_units k_p1_letters v_this_toldKeys v_words_length v_words_start v_words_end v_words_place v_words_units 0 v_p1_kind v_p1_letters) := hD
      refine lv_iconst (v := 0) hx hb dFR_readLetters_32 (by decide) ?_
      refine lv_istore_n (lv' := [(2, .int 0), (0, .ref a_this), (1, .ref a_p1)]) hx hb dFR_readLetters_33 rfl hl (by decide) rfl (fun ls hl => ?_)
      obtain ⟨n5, h⟩ := h
      exact w_FR_readLetters_34 l C0 hE a_this a_words a_words_units a_p1 a_p1_values a_p1_letters k_words_units k_p1_letters v_this_toldKeys v_words_length v_words_start v_words_end v_words_place v_words_units v_p1_letterCount v_p1_kind v_p1_letters post hK n5 0 0 v_p1_letters _ _ h hP hD hS ls (lv_sub hl [1, 2, 0] rfl)
    · intro c4
      replace h := h.2 c4
      refine lv_iconst (v := 0) hx hb dFR_readLetters_25 (by decide) ?_
      exact W.zret (v := 0) hx hb hr rfl (fun t ht hW => ⟨⟨0, (v_p1_letterCount, v_p1_letters), rfl, h, by rw [ht]; exact hP, hD⟩, hS.F ht⟩) hS.2.2 dFR_readLetters_26
abbrev yFR_readValues : MethodName := ⟨"FootprintRules$FamilyReader", "readValues", "(LFootprintRules$Family;LFootprintRules$Key;)Z"⟩
abbrev cFR_readValues : ByteArray := prog_4_method_5_code
abbrev wsFR_readValues : List Cond := .code yFR_readValues cFR_readValues 4 (some .boolean) :: zT
set_option maxRecDepth 100000 in
theorem zc_FR_readValues : Cond.code yFR_readValues cFR_readValues 4 (some .boolean) ∈ zT := zm 601 (by rfl) (by rfl)
theorem dFR_readValues_0 : decode cFR_readValues 0 = .ok (.aload_n 2, 1) := by decide +kernel
theorem dFR_readValues_1 : decode cFR_readValues 1 = .ok (.getstatic 70, 3) := by decide +kernel
theorem dFR_readValues_4 : decode cFR_readValues 4 = .ok (.if_acmp .ne 27, 3) := by decide +kernel
theorem dFR_readValues_7 : decode cFR_readValues 7 = .ok (.aload_n 0, 1) := by decide +kernel
theorem dFR_readValues_8 : decode cFR_readValues 8 = .ok (.getfield 12, 3) := by decide +kernel
theorem dFR_readValues_11 : decode cFR_readValues 11 = .ok (.invokevirtual 25, 3) := by decide +kernel
theorem dFR_readValues_14 : decode cFR_readValues 14 = .ok (.ifCond .eq 15, 3) := by decide +kernel
theorem dFR_readValues_17 : decode cFR_readValues 17 = .ok (.aload_n 0, 1) := by decide +kernel
theorem dFR_readValues_18 : decode cFR_readValues 18 = .ok (.aload_n 1, 1) := by decide +kernel
theorem dFR_readValues_19 : decode cFR_readValues 19 = .ok (.invokevirtual 74, 3) := by decide +kernel
theorem dFR_readValues_22 : decode cFR_readValues 22 = .ok (.ifCond .eq 7, 3) := by decide +kernel
theorem dFR_readValues_25 : decode cFR_readValues 25 = .ok (.iconst 1, 1) := by decide +kernel
theorem dFR_readValues_26 : decode cFR_readValues 26 = .ok (.goto 4, 3) := by decide +kernel
theorem dFR_readValues_29 : decode cFR_readValues 29 = .ok (.iconst 0, 1) := by decide +kernel
theorem dFR_readValues_30 : decode cFR_readValues 30 = .ok (.ireturn, 1) := by decide +kernel
theorem dFR_readValues_31 : decode cFR_readValues 31 = .ok (.iconst 0, 1) := by decide +kernel
theorem dFR_readValues_32 : decode cFR_readValues 32 = .ok (.istore_n 3, 1) := by decide +kernel
theorem dFR_readValues_33 : decode cFR_readValues 33 = .ok (.iload_n 3, 1) := by decide +kernel
theorem dFR_readValues_34 : decode cFR_readValues 34 = .ok (.aload_n 2, 1) := by decide +kernel
theorem dFR_readValues_35 : decode cFR_readValues 35 = .ok (.getfield 77, 3) := by decide +kernel
theorem dFR_readValues_38 : decode cFR_readValues 38 = .ok (.if_icmp .ge 48, 3) := by decide +kernel
theorem dFR_readValues_41 : decode cFR_readValues 41 = .ok (.aload_n 0, 1) := by decide +kernel
theorem dFR_readValues_42 : decode cFR_readValues 42 = .ok (.getfield 12, 3) := by decide +kernel
theorem dFR_readValues_45 : decode cFR_readValues 45 = .ok (.invokevirtual 25, 3) := by decide +kernel
theorem dFR_readValues_48 : decode cFR_readValues 48 = .ok (.ifCond .eq 17, 3) := by decide +kernel
theorem dFR_readValues_51 : decode cFR_readValues 51 = .ok (.aload_n 2, 1) := by decide +kernel
theorem dFR_readValues_52 : decode cFR_readValues 52 = .ok (.aload_n 0, 1) := by decide +kernel
theorem dFR_readValues_53 : decode cFR_readValues 53 = .ok (.getfield 12, 3) := by decide +kernel
theorem dFR_readValues_56 : decode cFR_readValues 56 = .ok (.invokevirtual 80, 3) := by decide +kernel
theorem dFR_readValues_59 : decode cFR_readValues 59 = .ok (.invokevirtual 84, 3) := by decide +kernel
theorem dFR_readValues_62 : decode cFR_readValues 62 = .ok (.ifCond .ne 5, 3) := by decide +kernel
theorem dFR_readValues_65 : decode cFR_readValues 65 = .ok (.iconst 0, 1) := by decide +kernel
theorem dFR_readValues_66 : decode cFR_readValues 66 = .ok (.ireturn, 1) := by decide +kernel
theorem dFR_readValues_67 : decode cFR_readValues 67 = .ok (.aload_n 1, 1) := by decide +kernel
theorem dFR_readValues_68 : decode cFR_readValues 68 = .ok (.aload_n 2, 1) := by decide +kernel
theorem dFR_readValues_69 : decode cFR_readValues 69 = .ok (.iload_n 3, 1) := by decide +kernel
theorem dFR_readValues_70 : decode cFR_readValues 70 = .ok (.aload_n 0, 1) := by decide +kernel
theorem dFR_readValues_71 : decode cFR_readValues 71 = .ok (.getfield 12, 3) := by decide +kernel
theorem dFR_readValues_74 : decode cFR_readValues 74 = .ok (.invokevirtual 80, 3) := by decide +kernel
theorem dFR_readValues_77 : decode cFR_readValues 77 = .ok (.invokevirtual 88, 3) := by decide +kernel
theorem dFR_readValues_80 : decode cFR_readValues 80 = .ok (.iinc 3 1, 3) := by decide +kernel
theorem dFR_readValues_83 : decode cFR_readValues 83 = .ok (.goto (-50), 3) := by decide +kernel
theorem dFR_readValues_86 : decode cFR_readValues 86 = .ok (.iconst 1, 1) := by decide +kernel
theorem dFR_readValues_87 : decode cFR_readValues 87 = .ok (.ireturn, 1) := by decide +kernel
-- FootprintRules$FamilyReader.readValues(LFootprintRules$Family;LFootprintRules$Key;)Z
abbrev w_FR_readValues (ad : Nat → Nat → Nat) (a_this : Nat) (a_words : Nat) (a_words_units : Nat) (a_p1 : Nat) (a_p1_values : Nat) (a_p1_letters : Nat) (k_words_units : ClassId) (k_p1_letters : ClassId) (k_p1_values : ClassId) (v_this_toldKeys : Int32) (v_words_length : Int32) (v_words_start : Int32) (v_words_end : Int32) (v_words_place : Int32) (v_words_units : Nat → Int32) (v_p1_letterCount : Int32) (v_p1_kind : Nat) (v_p1_letters : Nat → Int32) (v_p1_values : Nat → Int32) : va_W := [(a_this, .inr (1, [.ref a_words, .int v_this_toldKeys])), (a_words, .inr (0, [.ref a_words_units, .int v_words_length, .int v_words_start, .int v_words_end, .int v_words_place])), (a_words_units, .inl (k_words_units, 600, .inl v_words_units)), (a_p1, .inr (2, [.ref a_p1_values, .ref a_p1_letters, .int v_p1_letterCount, .ref (ad 0 v_p1_kind)])), (a_p1_letters, .inl (k_p1_letters, 4, .inl v_p1_letters)), (a_p1_values, .inl (k_p1_values, 18, .inl v_p1_values))]
def P_FR_readValues_33 (p2 : Nat) (v_words_length : Int32) (v_words_units : Nat → Int32) (v_p1_letterCount : Int32) (v_p1_letters : Nat → Int32) (post : Int32 → Int32 → Int32 → Int32 → Int32 → (Nat → Int32) → (Nat → Int32) → Prop) : Nat → Int32 → Int32 → Int32 → Int32 → (Nat → Int32) → Prop
  | 0, _, _, _, _, _ => False
  | n + 1, y3, u_words_start, u_words_end, u_words_place, u_p1_values => p2 < 11 ∧ (((zKey_many.getD p2 0) ≤ y3 → post 1 u_words_start u_words_end u_words_place v_p1_letterCount v_p1_letters u_p1_values) ∧ (¬ (zKey_many.getD p2 0) ≤ y3 → P_Wo_next v_words_length u_words_end u_words_place v_words_units (fun (r6 : Int32) (u3 : Int32) (u4 : Int32) (u5 : Int32) => ((r6 = 0 → post 0 u3 u4 u5 v_p1_letterCount v_p1_letters u_p1_values) ∧ (¬ r6 = 0 → P_Wo_value u3 u4 v_words_units (fun (r8 : Int32) => p2 < 11 ∧ P_Ke_takes p2 r8 (fun (r9 : Int32) => ((¬ r9 = 0 → P_Wo_value u3 u4 v_words_units (fun (r12 : Int32) => P_Fa_put p2 y3 r12 u_p1_values (fun (u13 : Nat → Int32) => ∀ x14 : Int32, x14 = y3 + 1 → P_FR_readValues_33 p2 v_words_length v_words_units v_p1_letterCount v_p1_letters post n x14 u3 u4 u5 u13))) ∧ (r9 = 0 → post 0 u3 u4 u5 v_p1_letterCount v_p1_letters u_p1_values)))))))))
set_option maxHeartbeats 4000000 in
set_option maxRecDepth 100000 in
theorem w_FR_readValues_33 (l : Launch) {p : Program} {e : Env} {s : State} {m : MethodId} {args : Array Value} {below : List Frame} {meth : Method} {c : Code} {dC : Nat → ClassId} {dI : Nat → Nat → Nat} {ad : Nat → Nat → Nat} {A : Nat → Prop} (C0 : zC p s m args meth c cFR_readValues 4 RFR zT (some .boolean) A) (hE : zE ad A s) (a_this : Nat) (a_words : Nat) (a_words_units : Nat) (a_p1 : Nat) (a_p1_values : Nat) (a_p1_letters : Nat) (k_words_units : ClassId) (k_p1_letters : ClassId) (k_p1_values : ClassId) (p2 : Nat) (v_this_toldKeys : Int32) (v_words_length : Int32) (v_words_start : Int32) (v_words_end : Int32) (v_words_place : Int32) (v_words_units : Nat → Int32) (v_p1_letterCount : Int32) (v_p1_kind : Nat) (v_p1_letters : Nat → Int32) (v_p1_values : Nat → Int32) (post : Int32 → Int32 → Int32 → Int32 → Int32 → (Nat → Int32) → (Nat → Int32) → Prop) (hK : va_K (dC, dI) vwCl [(k_words_units, .char), (k_p1_letters, .char), (k_p1_values, .int)] s) : ∀ (n : Nat), ∀ (y3 : Int32) (u_words_start : Int32) (u_words_end : Int32) (u_words_place : Int32) (u_p1_values : Nat → Int32) (H : Heap) (locs : List Loc), P_FR_readValues_33 p2 v_words_length v_words_units v_p1_letterCount v_p1_letters post n y3 u_words_start u_words_end u_words_place u_p1_values → va_P (dC, dI) vwCl (w_FR_readValues ad a_this a_words a_words_units a_p1 a_p1_values a_p1_letters k_words_units k_p1_letters k_p1_values v_this_toldKeys v_words_length u_words_start u_words_end u_words_place v_words_units v_p1_letterCount v_p1_kind v_p1_letters u_p1_values) H → va_D A (w_FR_readValues ad a_this a_words a_words_units a_p1 a_p1_values a_p1_letters k_words_units k_p1_letters k_p1_values v_this_toldKeys v_words_length u_words_start u_words_end u_words_place v_words_units v_p1_letterCount v_p1_kind v_p1_letters u_p1_values) → va_S A s.heap H locs → ∀ ls : Array Slot, lv_has ls 4 [(0, .ref a_this), (1, .ref a_p1), (2, .ref (ad 1 p2)), (3, .int y3)] → W p l e (headSpec wsFR_readValues { frames := 3, cells := 0, slots := 0, locals := 67 }).room s m args below meth c H locs 0 0 (MQ below (va_Qi (fun (r : Int32) (u : Int32 × Int32 × Int32 × Int32 × (Nat → Int32) × (Nat → Int32)) => post r u.1 u.2.1 u.2.2.1 u.2.2.2.1 u.2.2.2.2.1 u.2.2.2.2.2) (zB (dC, dI) A (fun (u : Int32 × Int32 × Int32 × Int32 × (Nat → Int32) × (Nat → Int32)) => (w_FR_readValues ad a_this a_words a_words_units a_p1 a_p1_values a_p1_letters k_words_units k_p1_letters k_p1_values v_this_toldKeys v_words_length u.1 u.2.1 u.2.2.1 v_words_units u.2.2.2.1 v_p1_kind u.2.2.2.2.1 u.2.2.2.2.2))) A) args s 0 0 A) (F0 m 33 ls []) := by
  obtain ⟨hx, hb, hr, hml, hown, hts, hlocks, hA⟩ := id C0
  intro n
  induction n with
  | zero =>
    intro y3 u_words_start u_words_end u_words_place u_p1_values H locs h
    exact False.elim h
  | succ n ih =>
    intro y3 u_words_start u_words_end u_words_place u_p1_values H locs h hP hD hS ls hl
    rw [P_FR_readValues_33] at h
    refine lv_iload_n hx hb dFR_readValues_33 rfl (lv_at hl 3 rfl) ?_
    refine lv_aload_n hx hb dFR_readValues_34 rfl (lv_at hl 2 rfl) ?_
    obtain ⟨hn1, h⟩ := h
    refine zz_getON (o := "FootprintRules$Key") (n := "many") (d := "I") (v := .int (zKey_many.getD p2 0)) hx hb (hE.fKey_many p2 hn1) hS hown ((hE.nw _ zn_1336).use rfl) (fun _ h9 => h9) dFR_readValues_35 ?_
    refine lv_icmp_ge (tgt := 86) hx hb dFR_readValues_38 (by decide) ?_ ?_
    · intro c2
      replace h := h.1 c2
      refine lv_iconst (v := 1) hx hb dFR_readValues_86 (by decide) ?_
      exact W.zret (v := 1) hx hb hr rfl (fun t ht hW => ⟨⟨1, (u_words_start, u_words_end, u_words_place, v_p1_letterCount, v_p1_letters, u_p1_values), rfl, h, by rw [ht]; exact hP, hD⟩, hS.F ht⟩) hS.2.2 dFR_readValues_87
    · intro c2
      replace h := h.2 c2
      refine lv_aload_n hx hb dFR_readValues_41 rfl (lv_at hl 0 rfl) ?_
      refine va_get (D := (dC, dI)) (ci := 1) (v := .ref a_words) (C := RFR) (T := TFR) (N := 2) hx hb hts inZ_FR hown hK hP 0 rfl rfl 0 (by decide) (hts _ zw_158) (fun _ h9 => h9) rfl dFR_readValues_42 ?_
      refine zcall_i hP hD hS hA [1, 2] [0, 3, 4, 5] (va_runVN (As := []) (rest := []) ⟨hx, hb, hml, hown, hts⟩ (c_Wo_next l dC dI ad a_words a_words_units k_words_units _ v_words_length u_words_start u_words_end u_words_place v_words_units _ h) ⟨va_cnB 0 hts (zgood zc_Wo_next) rfl rfl rfl (hE.nw _ zn_503) (hts _ zw_97) (by decide +kernel) ⟨Nat.le_of_ble_eq_true rfl, Nat.le_of_ble_eq_true rfl⟩, (hts _ zw_505), (hts _ zw_8)⟩ (zpreV hE hK hP hD hS hA [1, 2] [0] (by rfl) (by rfl) (by decide) (ci := 0) (q0 := 1) rfl (by rfl)) rfl rfl hl.1 rfl (lv_room (Nat.le_of_ble_eq_true rfl)) dFR_readValues_45 ⟨Nat.le_of_ble_eq_true rfl, Nat.le_of_ble_eq_true rfl⟩) (by rfl) (by rfl) (by decide) (by decide) (fun r6 u H locs h hP hD hS => ?_)
      obtain ⟨u3, u4, u5⟩ := u
      try dsimp only at h
      have hP := hP.sub (ws' := (w_FR_readValues ad a_this a_words a_words_units a_p1 a_p1_values a_p1_letters k_words_units k_p1_letters k_p1_values v_this_toldKeys v_words_length u3 u4 u5 v_words_units v_p1_letterCount v_p1_kind v_p1_letters u_p1_values)) [0, 4, 5, 1, 2, 3] rfl
      have hD := hD.sub (ws' := (w_FR_readValues ad a_this a_words a_words_units a_p1 a_p1_values a_p1_letters k_words_units k_p1_letters k_p1_values v_this_toldKeys v_words_length u3 u4 u5 v_words_units v_p1_letterCount v_p1_kind v_p1_letters u_p1_values)) [0, 4, 5, 1, 2, 3] (by decide) rfl
      refine lv_if_eq (tgt := 65) hx hb dFR_readValues_48 (by decide) ?_ ?_
      · intro c7
        replace h := h.1 c7
        refine lv_iconst (v := 0) hx hb dFR_readValues_65 (by decide) ?_
        exact W.zret (v := 0) hx hb hr rfl (fun t ht hW => ⟨⟨0, (u3, u4, u5, v_p1_letterCount, v_p1_letters, u_p1_values), rfl, h, by rw [ht]; exact hP, hD⟩, hS.F ht⟩) hS.2.2 dFR_readValues_66
      · intro c7
        replace h := h.2 c7
        refine lv_aload_n hx hb dFR_readValues_51 rfl (lv_at hl 2 rfl) ?_
        refine lv_aload_n hx hb dFR_readValues_52 rfl (lv_at hl 0 rfl) ?_
        refine va_get (D := (dC, dI)) (ci := 1) (v := .ref a_words) (C := RFR) (T := TFR) (N := 2) hx hb hts inZ_FR hown hK hP 0 rfl rfl 0 (by decide) (hts _ zw_158) (fun _ h9 => h9) rfl dFR_readValues_53 ?_
        refine zcall_i hP hD hS hA [1, 2] [0, 3, 4, 5] (va_runVN (As := []) (rest := [.ref (ad 1 p2)]) ⟨hx, hb, hml, hown, hts⟩ (c_Wo_value l dC dI ad a_words a_words_units k_words_units _ v_words_length u3 u4 u5 v_words_units _ h) ⟨va_cnB 0 hts (zgood zc_Wo_value) rfl rfl rfl (hE.nw _ zn_615) (hts _ zw_97) (by decide +kernel) ⟨Nat.le_of_ble_eq_true rfl, Nat.le_of_ble_eq_true rfl⟩, (hts _ zw_617), (hts _ zw_20)⟩ (zpreV hE hK hP hD hS hA [1, 2] [0] (by rfl) (by rfl) (by decide) (ci := 0) (q0 := 1) rfl (by rfl)) rfl rfl hl.1 rfl (lv_room (Nat.le_of_ble_eq_true rfl)) dFR_readValues_56 ⟨Nat.le_of_ble_eq_true rfl, Nat.le_of_ble_eq_true rfl⟩) (by rfl) (by rfl) (by decide) (by decide) (fun r8 u H locs h hP hD hS => ?_)
        try dsimp only at h
        have hP := hP.sub (ws' := (w_FR_readValues ad a_this a_words a_words_units a_p1 a_p1_values a_p1_letters k_words_units k_p1_letters k_p1_values v_this_toldKeys v_words_length u3 u4 u5 v_words_units v_p1_letterCount v_p1_kind v_p1_letters u_p1_values)) [0, 4, 5, 1, 2, 3] rfl
        have hD := hD.sub (ws' := (w_FR_readValues ad a_this a_words a_words_units a_p1 a_p1_values a_p1_letters k_words_units k_p1_letters k_p1_values v_this_toldKeys v_words_length u3 u4 u5 v_words_units v_p1_letterCount v_p1_kind v_p1_letters u_p1_values)) [0, 4, 5, 1, 2, 3] (by decide) rfl
        obtain ⟨hn10, h⟩ := h
        refine zcall_i hP hD hS hA [] [0, 1, 2, 3, 4, 5] (va_runVN (As := [.int r8]) (rest := []) ⟨hx, hb, hml, hown, hts⟩ (c_Ke_takes l dC dI ad _ p2 r8 _ h) ⟨va_cnB 1 hts (zgood zc_Ke_takes) rfl rfl rfl (hE.nw _ zn_620) (hts _ zw_116) (by decide +kernel) ⟨Nat.le_of_ble_eq_true rfl, Nat.le_of_ble_eq_true rfl⟩, (hts _ zw_622), (hts _ zw_21)⟩ (zpreC hE hK hP hD hS hA [] [] (by rfl) (by rfl) (by decide) (va_recvE hE.enKey hn10 hS)) rfl rfl hl.1 rfl (lv_room (Nat.le_of_ble_eq_true rfl)) dFR_readValues_59 ⟨Nat.le_of_ble_eq_true rfl, Nat.le_of_ble_eq_true rfl⟩) (by rfl) (by rfl) (by decide) (by decide) (fun r9 u H locs h hP hD hS => ?_)
        try dsimp only at h
        have hP := hP.sub (ws' := (w_FR_readValues ad a_this a_words a_words_units a_p1 a_p1_values a_p1_letters k_words_units k_p1_letters k_p1_values v_this_toldKeys v_words_length u3 u4 u5 v_words_units v_p1_letterCount v_p1_kind v_p1_letters u_p1_values)) [0, 1, 2, 3, 4, 5] rfl
        have hD := hD.sub (ws' := (w_FR_readValues ad a_this a_words a_words_units a_p1 a_p1_values a_p1_letters k_words_units k_p1_letters k_p1_values v_this_toldKeys v_words_length u3 u4 u5 v_words_units v_p1_letterCount v_p1_kind v_p1_letters u_p1_values)) [0, 1, 2, 3, 4, 5] (by decide) rfl
        refine lv_if_ne (tgt := 67) hx hb dFR_readValues_62 (by decide) ?_ ?_
        · intro c11
          replace h := h.1 c11
          refine lv_aload_n hx hb dFR_readValues_67 rfl (lv_at hl 1 rfl) ?_
          refine lv_aload_n hx hb dFR_readValues_68 rfl (lv_at hl 2 rfl) ?_
          refine lv_iload_n hx hb dFR_readValues_69 rfl (lv_at hl 3 rfl) ?_
          refine lv_aload_n hx hb dFR_readValues_70 rfl (lv_at hl 0 rfl) ?_
          refine va_get (D := (dC, dI)) (ci := 1) (v := .ref a_words) (C := RFR) (T := TFR) (N := 2) hx hb hts inZ_FR hown hK hP 0 rfl rfl 0 (by decide) (hts _ zw_158) (fun _ h9 => h9) rfl dFR_readValues_71 ?_
          refine zcall_i hP hD hS hA [1, 2] [0, 3, 4, 5] (va_runVN (As := []) (rest := [.int y3, .ref (ad 1 p2), .ref a_p1]) ⟨hx, hb, hml, hown, hts⟩ (c_Wo_value l dC dI ad a_words a_words_units k_words_units _ v_words_length u3 u4 u5 v_words_units _ h) ⟨va_cnB 0 hts (zgood zc_Wo_value) rfl rfl rfl (hE.nw _ zn_615) (hts _ zw_97) (by decide +kernel) ⟨Nat.le_of_ble_eq_true rfl, Nat.le_of_ble_eq_true rfl⟩, (hts _ zw_617), (hts _ zw_20)⟩ (zpreV hE hK hP hD hS hA [1, 2] [0] (by rfl) (by rfl) (by decide) (ci := 0) (q0 := 1) rfl (by rfl)) rfl rfl hl.1 rfl (lv_room (Nat.le_of_ble_eq_true rfl)) dFR_readValues_74 ⟨Nat.le_of_ble_eq_true rfl, Nat.le_of_ble_eq_true rfl⟩) (by rfl) (by rfl) (by decide) (by decide) (fun r12 u H locs h hP hD hS => ?_)
          try dsimp only at h
          have hP := hP.sub (ws' := (w_FR_readValues ad a_this a_words a_words_units a_p1 a_p1_values a_p1_letters k_words_units k_p1_letters k_p1_values v_this_toldKeys v_words_length u3 u4 u5 v_words_units v_p1_letterCount v_p1_kind v_p1_letters u_p1_values)) [0, 4, 5, 1, 2, 3] rfl
          have hD := hD.sub (ws' := (w_FR_readValues ad a_this a_words a_words_units a_p1 a_p1_values a_p1_letters k_words_units k_p1_letters k_p1_values v_this_toldKeys v_words_length u3 u4 u5 v_words_units v_p1_letterCount v_p1_kind v_p1_letters u_p1_values)) [0, 4, 5, 1, 2, 3] (by decide) rfl
          refine zcall_v hP hD hS hA [3, 5] [0, 1, 2, 4] (va_runVN (As := [.ref (ad 1 p2), .int y3, .int r12]) (rest := []) ⟨hx, hb, hml, hown, hts⟩ (c_Fa_put l dC dI ad a_p1 a_p1_values a_p1_letters k_p1_values _ p2 y3 r12 v_p1_letterCount v_p1_kind u_p1_values _ h) ⟨va_cnB 3 hts (zgood zc_Fa_put) rfl rfl rfl (hE.nw _ zn_629) (hts _ zw_102) (by decide +kernel) ⟨Nat.le_of_ble_eq_true rfl, Nat.le_of_ble_eq_true rfl⟩, (hts _ zw_584), (hts _ zw_14)⟩ (zpreV hE hK hP hD hS hA [3, 5] [2] (by rfl) (by rfl) (by decide) (ci := 2) (q0 := 3) rfl (by rfl)) rfl rfl hl.1 rfl (lv_room (Nat.le_of_ble_eq_true rfl)) dFR_readValues_77 ⟨Nat.le_of_ble_eq_true rfl, Nat.le_of_ble_eq_true rfl⟩) (by rfl) (by rfl) (by decide) (by decide) (fun u13 H locs h hP hD hS => ?_)
          try dsimp only at h
          have hP := hP.sub (ws' := (w_FR_readValues ad a_this a_words a_words_units a_p1 a_p1_values a_p1_letters k_words_units k_p1_letters k_p1_values v_this_toldKeys v_words_length u3 u4 u5 v_words_units v_p1_letterCount v_p1_kind v_p1_letters u13)) [0, 1, 2, 4, 3, 5] rfl
          have hD := hD.sub (ws' := (w_FR_readValues ad a_this a_words a_words_units a_p1 a_p1_values a_p1_letters k_words_units k_p1_letters k_p1_values v_this_toldKeys v_words_length u3 u4 u5 v_words_units v_p1_letterCount v_p1_kind v_p1_letters u13)) [0, 1, 2, 4, 3, 5] (by decide) rfl
          obtain ⟨x14, ex14⟩ : ∃ y : Int32, y = y3 + 1 := ⟨_, rfl⟩
          replace h := h x14 ex14
          refine lv_iinc (v := x14) (lv' := [(3, .int x14), (0, .ref a_this), (1, .ref a_p1), (2, .ref (ad 1 p2))]) hx hb dFR_readValues_80 hl (k := 3) rfl (by rw [ex14]; rfl) (by decide) rfl (fun ls hl => ?_)
          refine lv_goto (tgt := 33) hx hb dFR_readValues_83 (by decide) ?_
          exact ih x14 u3 u4 u5 u13 _ _ h hP hD hS ls (lv_sub hl [1, 2, 3, 0] rfl)
        · intro c11
          replace h := h.2 c11
          refine lv_iconst (v := 0) hx hb dFR_readValues_65 (by decide) ?_
          exact W.zret (v := 0) hx hb hr rfl (fun t ht hW => ⟨⟨0, (u3, u4, u5, v_p1_letterCount, v_p1_letters, u_p1_values), rfl, h, by rw [ht]; exact hP, hD⟩, hS.F ht⟩) hS.2.2 dFR_readValues_66
def P_FR_readValues (p2 : Nat) (v_words_length : Int32) (v_words_start : Int32) (v_words_end : Int32) (v_words_place : Int32) (v_words_units : Nat → Int32) (v_p1_letterCount : Int32) (v_p1_letters : Nat → Int32) (v_p1_values : Nat → Int32) (post : Int32 → Int32 → Int32 → Int32 → Int32 → (Nat → Int32) → (Nat → Int32) → Prop) : Prop := p2 < 11 ∧ ((¬ p2 = 10 → ∃ n3, P_FR_readValues_33 p2 v_words_length v_words_units v_p1_letterCount v_p1_letters post n3 0 v_words_start v_words_end v_words_place v_p1_values) ∧ (p2 = 10 → P_Wo_next v_words_length v_words_end v_words_place v_words_units (fun (r7 : Int32) (u4 : Int32) (u5 : Int32) (u6 : Int32) => ((r7 = 0 → post 0 u4 u5 u6 v_p1_letterCount v_p1_letters v_p1_values) ∧ (¬ r7 = 0 → P_FR_readLetters u4 u5 v_words_units v_p1_letterCount v_p1_letters (fun (r11 : Int32) (u9 : Int32) (u10 : Nat → Int32) => ((r11 = 0 → post 0 u4 u5 u6 u9 u10 v_p1_values) ∧ (¬ r11 = 0 → post 1 u4 u5 u6 u9 u10 v_p1_values))))))))
set_option maxHeartbeats 4000000 in
set_option maxRecDepth 100000 in
theorem c_FR_readValues (l : Launch) (dC : Nat → ClassId) (dI : Nat → Nat → Nat) (ad : Nat → Nat → Nat) (a_this : Nat) (a_words : Nat) (a_words_units : Nat) (a_p1 : Nat) (a_p1_values : Nat) (a_p1_letters : Nat) (k_words_units : ClassId) (k_p1_letters : ClassId) (k_p1_values : ClassId) (sz : Nat) (p2 : Nat) (v_this_toldKeys : Int32) (v_words_length : Int32) (v_words_start : Int32) (v_words_end : Int32) (v_words_place : Int32) (v_words_units : Nat → Int32) (v_p1_letterCount : Int32) (v_p1_kind : Nat) (v_p1_letters : Nat → Int32) (v_p1_values : Nat → Int32) (post : Int32 → Int32 → Int32 → Int32 → Int32 → (Nat → Int32) → (Nat → Int32) → Prop) (h : P_FR_readValues p2 v_words_length v_words_start v_words_end v_words_place v_words_units v_p1_letterCount v_p1_letters v_p1_values post) : zMi l yFR_readValues wsFR_readValues { frames := 3, cells := 0, slots := 0, locals := 67 } (dC, dI) ad [.ref a_this, .ref a_p1, .ref (ad 1 p2)] (w_FR_readValues ad a_this a_words a_words_units a_p1 a_p1_values a_p1_letters k_words_units k_p1_letters k_p1_values v_this_toldKeys v_words_length v_words_start v_words_end v_words_place v_words_units v_p1_letterCount v_p1_kind v_p1_letters v_p1_values) [(k_words_units, .char), (k_p1_letters, .char), (k_p1_values, .int)] sz (fun (r : Int32) (u : Int32 × Int32 × Int32 × Int32 × (Nat → Int32) × (Nat → Int32)) => post r u.1 u.2.1 u.2.2.1 u.2.2.2.1 u.2.2.2.2.1 u.2.2.2.2.2) (fun (u : Int32 × Int32 × Int32 × Int32 × (Nat → Int32) × (Nat → Int32)) => (w_FR_readValues ad a_this a_words a_words_units a_p1 a_p1_values a_p1_letters k_words_units k_p1_letters k_p1_values v_this_toldKeys v_words_length u.1 u.2.1 u.2.2.1 v_words_units u.2.2.2.1 v_p1_kind u.2.2.2.2.1 u.2.2.2.2.2)) 0 0 := by
  refine Met.ofW (cc := cFR_readValues) (maxL := 4) (ret := (some .boolean)) (by decide +kernel) rfl ?_
  intro p e s m args below meth c s₁ B hml hv
  obtain ⟨rfl, hsz, hP, hK, hD0, hE⟩ := hv
  have hx := B.exec
  have hb := B.bytes
  have hr := B.returns
  have hts0 := atoms_spec (ws := wsFR_readValues) B.pre
  have hts := fun w h => hts0 w (List.mem_cons_of_mem _ h)
  have hown : s.vm.findClass RFR = some m.cls := findClass_of_methodNamed B.named
  have hlocks := B.notSynchronized
  subst hsz
  have hD := hD0.self (sz := s.heap.size)
  generalize hAe : va_A (w_FR_readValues ad a_this a_words a_words_units a_p1 a_p1_values a_p1_letters k_words_units k_p1_letters k_p1_values v_this_toldKeys v_words_length v_words_start v_words_end v_words_place v_words_units v_p1_letterCount v_p1_kind v_p1_letters v_p1_values) s.heap.size = A at hD hE ⊢
  have hA : ∀ q : Nat, s.heap.size ≤ q → A q := fun q h => by rw [← hAe]; exact Or.inr h
  have C0 := zC.mk hx hb hr hml hown hts hlocks hA
  have hS : va_S A s.heap s.heap [] := va_S.rf
  have hl := lv_entry ([.ref a_this, .ref a_p1, .ref (ad 1 p2)]) (n := 4) (Nat.le_of_ble_eq_true rfl)
  rw [lg_entry_eq]
  generalize (lg_sl ([.ref a_this, .ref a_p1, .ref (ad 1 p2)]) ++ List.replicate (4 - (lg_sl ([.ref a_this, .ref a_p1, .ref (ad 1 p2)])).length) Slot.unset).toArray = ls at hl ⊢
  have hl : lv_has ls 4 [(0, .ref a_this), (1, .ref a_p1), (2, .ref (ad 1 p2))] := hl
  unfold P_FR_readValues at h
  refine lv_aload_n hx hb dFR_readValues_0 rfl (lv_at hl 2 rfl) ?_
  refine va_gets (C := "FootprintRules$Key") (n := "NAME") (d := "LFootprintRules$Key;") hx hb (hE.enKey.1 10 (by decide)).1 hS hown (hts _ zw_602) (fun _ h9 => h9) dFR_readValues_1 ?_
  obtain ⟨hn1, h⟩ := h
  refine zz_acmp_ne (tgt := 31) hx hb dFR_readValues_4 (by decide) (hE.inj_Key hn1 (by decide)) ?_ ?_
  · intro c2
    replace h := h.1 c2
    refine lv_iconst (v := 0) hx hb dFR_readValues_31 (by decide) ?_
    refine lv_istore_n (lv' := [(3, .int 0), (0, .ref a_this), (1, .ref a_p1), (2, .ref (ad 1 p2))]) hx hb dFR_readValues_32 rfl hl (by decide) rfl (fun ls hl => ?_)
    obtain ⟨n3, h⟩ := h
    exact w_FR_readValues_33 l C0 hE a_this a_words a_words_units a_p1 a_p1_values a_p1_letters k_words_units k_p1_letters k_p1_values p2 v_this_toldKeys v_words_length v_words_start v_words_end v_words_place v_words_units v_p1_letterCount v_p1_kind v_p1_letters v_p1_values post hK n3 0 v_words_start v_words_end v_words_place v_p1_values _ _ h hP hD hS ls (lv_sub hl [1, 2, 3, 0] rfl)
  · intro c2
    replace h := h.2 c2
    refine lv_aload_n hx hb dFR_readValues_7 rfl (lv_at hl 0 rfl) ?_
    refine va_get (D := (dC, dI)) (ci := 1) (v := .ref a_words) (C := RFR) (T := TFR) (N := 2) hx hb hts inZ_FR hown hK hP 0 rfl rfl 0 (by decide) (hts _ zw_158) (fun _ h9 => h9) rfl dFR_readValues_8 ?_
    refine zcall_i hP hD hS hA [1, 2] [0, 3, 4, 5] (va_runVN (As := []) (rest := []) ⟨hx, hb, hml, hown, hts⟩ (c_Wo_next l dC dI ad a_words a_words_units k_words_units _ v_words_length v_words_start v_words_end v_words_place v_words_units _ h) ⟨va_cnB 0 hts (zgood zc_Wo_next) rfl rfl rfl (hE.nw _ zn_503) (hts _ zw_97) (by decide +kernel) ⟨Nat.le_of_ble_eq_true rfl, Nat.le_of_ble_eq_true rfl⟩, (hts _ zw_505), (hts _ zw_8)⟩ (zpreV hE hK hP hD hS hA [1, 2] [0] (by rfl) (by rfl) (by decide) (ci := 0) (q0 := 1) rfl (by rfl)) rfl rfl hl.1 rfl (lv_room (Nat.le_of_ble_eq_true rfl)) dFR_readValues_11 ⟨Nat.le_of_ble_eq_true rfl, Nat.le_of_ble_eq_true rfl⟩) (by rfl) (by rfl) (by decide) (by decide) (fun r7 u H locs h hP hD hS => ?_)
    obtain ⟨u4, u5, u6⟩ := u
    try dsimp only at h
    have hP := hP.sub (ws' := (w_FR_readValues ad a_this a_words a_words_units a_p1 a_p1_values a_p1_letters k_words_units k_p1_letters k_p1_values v_this_toldKeys v_words_length u4 u5 u6 v_words_units v_p1_letterCount v_p1_kind v_p1_letters v_p1_values)) [0, 4, 5, 1, 2, 3] rfl
    have hD := hD.sub (ws' := (w_FR_readValues ad a_this a_words a_words_units a_p1 a_p1_values a_p1_letters k_words_units k_p1_letters k_p1_values v_this_toldKeys v_words_length u4 u5 u6 v_words_units v_p1_letterCount v_p1_kind v_p1_letters v_p1_values)) [0, 4, 5, 1, 2, 3] (by decide) rfl
    refine lv_if_eq (tgt := 29) hx hb dFR_readValues_14 (by decide) ?_ ?_
    · intro c8
      replace h := h.1 c8
      refine lv_iconst (v := 0) hx hb dFR_readValues_29 (by decide) ?_
      exact W.zret (v := 0) hx hb hr rfl (fun t ht hW => ⟨⟨0, (u4, u5, u6, v_p1_letterCount, v_p1_letters, v_p1_values), rfl, h, by rw [ht]; exact hP, hD⟩, hS.F ht⟩) hS.2.2 dFR_readValues_30
    · intro c8
      replace h := h.2 c8
      refine lv_aload_n hx hb dFR_readValues_17 rfl (lv_at hl 0 rfl) ?_
      refine lv_aload_n hx hb dFR_readValues_18 rfl (lv_at hl 1 rfl) ?_
      refine zcall_i hP hD hS hA [0, 1, 2, 3, 4] [5] (va_runV (As := [.ref a_p1]) (rest := []) ⟨hx, hb, hml, hown, hts⟩ (c_FR_readLetters l dC dI ad a_this a_words a_words_units a_p1 a_p1_values a_p1_letters k_words_units k_p1_letters _ v_this_toldKeys v_words_length u4 u5 u6 v_words_units v_p1_letterCount v_p1_kind v_p1_letters _ h) ⟨callB_of 1 hts (zgood zc_FR_readLetters) rfl rfl rfl (hts _ zw_96) (hts _ zw_604) (by decide +kernel) ⟨Nat.le_of_ble_eq_true rfl, Nat.le_of_ble_eq_true rfl⟩, (hts _ zw_606), (hts _ zw_18)⟩ (zpreV hE hK hP hD hS hA [0, 1, 2, 3, 4] [0, 1] (by rfl) (by rfl) (by decide) (ci := 1) (q0 := 0) rfl (by rfl)) rfl rfl hl.1 rfl (lv_room (Nat.le_of_ble_eq_true rfl)) dFR_readValues_19 ⟨Nat.le_of_ble_eq_true rfl, Nat.le_of_ble_eq_true rfl⟩) (by rfl) (by rfl) (by decide) (by decide) (fun r11 u H locs h hP hD hS => ?_)
      obtain ⟨u9, u10⟩ := u
      try dsimp only at h
      have hP := hP.sub (ws' := (w_FR_readValues ad a_this a_words a_words_units a_p1 a_p1_values a_p1_letters k_words_units k_p1_letters k_p1_values v_this_toldKeys v_words_length u4 u5 u6 v_words_units u9 v_p1_kind u10 v_p1_values)) [1, 2, 3, 4, 5, 0] rfl
      have hD := hD.sub (ws' := (w_FR_readValues ad a_this a_words a_words_units a_p1 a_p1_values a_p1_letters k_words_units k_p1_letters k_p1_values v_this_toldKeys v_words_length u4 u5 u6 v_words_units u9 v_p1_kind u10 v_p1_values)) [1, 2, 3, 4, 5, 0] (by decide) rfl
      refine lv_if_eq (tgt := 29) hx hb dFR_readValues_22 (by decide) ?_ ?_
      · intro c12
        replace h := h.1 c12
        refine lv_iconst (v := 0) hx hb dFR_readValues_29 (by decide) ?_
        exact W.zret (v := 0) hx hb hr rfl (fun t ht hW => ⟨⟨0, (u4, u5, u6, u9, u10, v_p1_values), rfl, h, by rw [ht]; exact hP, hD⟩, hS.F ht⟩) hS.2.2 dFR_readValues_30
      · intro c12
        replace h := h.2 c12
        refine lv_iconst (v := 1) hx hb dFR_readValues_25 (by decide) ?_
        refine lv_goto (tgt := 30) hx hb dFR_readValues_26 (by decide) ?_
        exact W.zret (v := 1) hx hb hr rfl (fun t ht hW => ⟨⟨1, (u4, u5, u6, u9, u10, v_p1_values), rfl, h, by rw [ht]; exact hP, hD⟩, hS.F ht⟩) hS.2.2 dFR_readValues_30
abbrev yFR_readKey : MethodName := ⟨"FootprintRules$FamilyReader", "readKey", "(LFootprintRules$Family;)Z"⟩
abbrev cFR_readKey : ByteArray := prog_4_method_4_code
abbrev wsFR_readKey : List Cond := .code yFR_readKey cFR_readKey 4 (some .boolean) :: zT
set_option maxRecDepth 100000 in
theorem zc_FR_readKey : Cond.code yFR_readKey cFR_readKey 4 (some .boolean) ∈ zT := zm 595 (by rfl) (by rfl)
theorem dFR_readKey_0 : decode cFR_readKey 0 = .ok (.iconst 0, 1) := by decide +kernel
theorem dFR_readKey_1 : decode cFR_readKey 1 = .ok (.istore_n 2, 1) := by decide +kernel
theorem dFR_readKey_2 : decode cFR_readKey 2 = .ok (.iload_n 2, 1) := by decide +kernel
theorem dFR_readKey_3 : decode cFR_readKey 3 = .ok (.getstatic 59, 3) := by decide +kernel
theorem dFR_readKey_6 : decode cFR_readKey 6 = .ok (.arraylength, 1) := by decide +kernel
theorem dFR_readKey_7 : decode cFR_readKey 7 = .ok (.if_icmp .ge 79, 3) := by decide +kernel
theorem dFR_readKey_10 : decode cFR_readKey 10 = .ok (.aload_n 0, 1) := by decide +kernel
theorem dFR_readKey_11 : decode cFR_readKey 11 = .ok (.getfield 12, 3) := by decide +kernel
theorem dFR_readKey_14 : decode cFR_readKey 14 = .ok (.getstatic 59, 3) := by decide +kernel
theorem dFR_readKey_17 : decode cFR_readKey 17 = .ok (.iload_n 2, 1) := by decide +kernel
theorem dFR_readKey_18 : decode cFR_readKey 18 = .ok (.aaload, 1) := by decide +kernel
theorem dFR_readKey_19 : decode cFR_readKey 19 = .ok (.getfield 63, 3) := by decide +kernel
theorem dFR_readKey_22 : decode cFR_readKey 22 = .ok (.invokevirtual 49, 3) := by decide +kernel
theorem dFR_readKey_25 : decode cFR_readKey 25 = .ok (.ifCond .eq 55, 3) := by decide +kernel
theorem dFR_readKey_28 : decode cFR_readKey 28 = .ok (.aload_n 0, 1) := by decide +kernel
theorem dFR_readKey_29 : decode cFR_readKey 29 = .ok (.getfield 21, 3) := by decide +kernel
theorem dFR_readKey_32 : decode cFR_readKey 32 = .ok (.iconst 1, 1) := by decide +kernel
theorem dFR_readKey_33 : decode cFR_readKey 33 = .ok (.iload_n 2, 1) := by decide +kernel
theorem dFR_readKey_34 : decode cFR_readKey 34 = .ok (.ishl, 1) := by decide +kernel
theorem dFR_readKey_35 : decode cFR_readKey 35 = .ok (.iand, 1) := by decide +kernel
theorem dFR_readKey_36 : decode cFR_readKey 36 = .ok (.ifCond .eq 7, 3) := by decide +kernel
theorem dFR_readKey_39 : decode cFR_readKey 39 = .ok (.iconst 1, 1) := by decide +kernel
theorem dFR_readKey_40 : decode cFR_readKey 40 = .ok (.goto 4, 3) := by decide +kernel
theorem dFR_readKey_43 : decode cFR_readKey 43 = .ok (.iconst 0, 1) := by decide +kernel
theorem dFR_readKey_44 : decode cFR_readKey 44 = .ok (.istore_n 3, 1) := by decide +kernel
theorem dFR_readKey_45 : decode cFR_readKey 45 = .ok (.aload_n 0, 1) := by decide +kernel
theorem dFR_readKey_46 : decode cFR_readKey 46 = .ok (.dup, 1) := by decide +kernel
theorem dFR_readKey_47 : decode cFR_readKey 47 = .ok (.getfield 21, 3) := by decide +kernel
theorem dFR_readKey_50 : decode cFR_readKey 50 = .ok (.iconst 1, 1) := by decide +kernel
theorem dFR_readKey_51 : decode cFR_readKey 51 = .ok (.iload_n 2, 1) := by decide +kernel
theorem dFR_readKey_52 : decode cFR_readKey 52 = .ok (.ishl, 1) := by decide +kernel
theorem dFR_readKey_53 : decode cFR_readKey 53 = .ok (.ior, 1) := by decide +kernel
theorem dFR_readKey_54 : decode cFR_readKey 54 = .ok (.putfield 21, 3) := by decide +kernel
theorem dFR_readKey_57 : decode cFR_readKey 57 = .ok (.iload_n 3, 1) := by decide +kernel
theorem dFR_readKey_58 : decode cFR_readKey 58 = .ok (.ifCond .ne 20, 3) := by decide +kernel
theorem dFR_readKey_61 : decode cFR_readKey 61 = .ok (.aload_n 0, 1) := by decide +kernel
theorem dFR_readKey_62 : decode cFR_readKey 62 = .ok (.aload_n 1, 1) := by decide +kernel
theorem dFR_readKey_63 : decode cFR_readKey 63 = .ok (.getstatic 59, 3) := by decide +kernel
theorem dFR_readKey_66 : decode cFR_readKey 66 = .ok (.iload_n 2, 1) := by decide +kernel
theorem dFR_readKey_67 : decode cFR_readKey 67 = .ok (.aaload, 1) := by decide +kernel
theorem dFR_readKey_68 : decode cFR_readKey 68 = .ok (.invokevirtual 66, 3) := by decide +kernel
theorem dFR_readKey_71 : decode cFR_readKey 71 = .ok (.ifCond .eq 7, 3) := by decide +kernel
theorem dFR_readKey_74 : decode cFR_readKey 74 = .ok (.iconst 1, 1) := by decide +kernel
theorem dFR_readKey_75 : decode cFR_readKey 75 = .ok (.goto 4, 3) := by decide +kernel
theorem dFR_readKey_78 : decode cFR_readKey 78 = .ok (.iconst 0, 1) := by decide +kernel
theorem dFR_readKey_79 : decode cFR_readKey 79 = .ok (.ireturn, 1) := by decide +kernel
theorem dFR_readKey_80 : decode cFR_readKey 80 = .ok (.iinc 2 1, 3) := by decide +kernel
theorem dFR_readKey_83 : decode cFR_readKey 83 = .ok (.goto (-81), 3) := by decide +kernel
theorem dFR_readKey_86 : decode cFR_readKey 86 = .ok (.iconst 0, 1) := by decide +kernel
theorem dFR_readKey_87 : decode cFR_readKey 87 = .ok (.ireturn, 1) := by decide +kernel
-- FootprintRules$FamilyReader.readKey(LFootprintRules$Family;)Z
abbrev w_FR_readKey (ad : Nat → Nat → Nat) (a_this : Nat) (a_words : Nat) (a_words_units : Nat) (a_p1 : Nat) (a_p1_values : Nat) (a_p1_letters : Nat) (k_words_units : ClassId) (k_p1_letters : ClassId) (k_p1_values : ClassId) (v_this_toldKeys : Int32) (v_words_length : Int32) (v_words_start : Int32) (v_words_end : Int32) (v_words_place : Int32) (v_words_units : Nat → Int32) (v_p1_letterCount : Int32) (v_p1_kind : Nat) (v_p1_letters : Nat → Int32) (v_p1_values : Nat → Int32) : va_W := [(a_this, .inr (1, [.ref a_words, .int v_this_toldKeys])), (a_words, .inr (0, [.ref a_words_units, .int v_words_length, .int v_words_start, .int v_words_end, .int v_words_place])), (a_words_units, .inl (k_words_units, 600, .inl v_words_units)), (a_p1, .inr (2, [.ref a_p1_values, .ref a_p1_letters, .int v_p1_letterCount, .ref (ad 0 v_p1_kind)])), (a_p1_letters, .inl (k_p1_letters, 4, .inl v_p1_letters)), (a_p1_values, .inl (k_p1_values, 18, .inl v_p1_values))]
def P_FR_readKey_44 (v_this_toldKeys : Int32) (v_words_length : Int32) (v_words_start : Int32) (v_words_end : Int32) (v_words_place : Int32) (v_words_units : Nat → Int32) (v_p1_letterCount : Int32) (v_p1_letters : Nat → Int32) (v_p1_values : Nat → Int32) (post : Int32 → Int32 → Int32 → Int32 → Int32 → Int32 → (Nat → Int32) → (Nat → Int32) → Prop) (y2 : Int32) (t0 : Int32) : Prop := ∀ x1 : Int32, x1 = v_this_toldKeys ||| (1 <<< (y2 &&& 31)) → ((¬ t0 = 0 → post 0 x1 v_words_start v_words_end v_words_place v_p1_letterCount v_p1_letters v_p1_values) ∧ (t0 = 0 → vp_in y2 11 ∧ P_FR_readValues y2.toNatClampNeg v_words_length v_words_start v_words_end v_words_place v_words_units v_p1_letterCount v_p1_letters v_p1_values (fun (r10 : Int32) (u4 : Int32) (u5 : Int32) (u6 : Int32) (u7 : Int32) (u8 : Nat → Int32) (u9 : Nat → Int32) => ((r10 = 0 → post 0 x1 u4 u5 u6 u7 u8 u9) ∧ (¬ r10 = 0 → post 1 x1 u4 u5 u6 u7 u8 u9)))))
set_option maxHeartbeats 4000000 in
set_option maxRecDepth 100000 in
theorem w_FR_readKey_44 (l : Launch) {p : Program} {e : Env} {s : State} {m : MethodId} {args : Array Value} {below : List Frame} {meth : Method} {c : Code} {dC : Nat → ClassId} {dI : Nat → Nat → Nat} {ad : Nat → Nat → Nat} {A : Nat → Prop} (C0 : zC p s m args meth c cFR_readKey 4 RFR zT (some .boolean) A) (hE : zE ad A s) (a_this : Nat) (a_words : Nat) (a_words_units : Nat) (a_p1 : Nat) (a_p1_values : Nat) (a_p1_letters : Nat) (k_words_units : ClassId) (k_p1_letters : ClassId) (k_p1_values : ClassId) (v_this_toldKeys : Int32) (v_words_length : Int32) (v_words_start : Int32) (v_words_end : Int32) (v_words_place : Int32) (v_words_units : Nat → Int32) (v_p1_letterCount : Int32) (v_p1_kind : Nat) (v_p1_letters : Nat → Int32) (v_p1_values : Nat → Int32) (post : Int32 → Int32 → Int32 → Int32 → Int32 → Int32 → (Nat → Int32) → (Nat → Int32) → Prop) (hK : va_K (dC, dI) vwCl [(k_words_units, .char), (k_p1_letters, .char), (k_p1_values, .int)] s) : ∀ (y2 : Int32) (t0 : Int32) (H : Heap) (locs : List Loc), P_FR_readKey_44 v_this_toldKeys v_words_length v_words_start v_words_end v_words_place v_words_units v_p1_letterCount v_p1_letters v_p1_values post y2 t0 → va_P (dC, dI) vwCl (w_FR_readKey ad a_this a_words a_words_units a_p1 a_p1_values a_p1_letters k_words_units k_p1_letters k_p1_values v_this_toldKeys v_words_length v_words_start v_words_end v_words_place v_words_units v_p1_letterCount v_p1_kind v_p1_letters v_p1_values) H → va_D A (w_FR_readKey ad a_this a_words a_words_units a_p1 a_p1_values a_p1_letters k_words_units k_p1_letters k_p1_values v_this_toldKeys v_words_length v_words_start v_words_end v_words_place v_words_units v_p1_letterCount v_p1_kind v_p1_letters v_p1_values) → va_S A s.heap H locs → ∀ ls : Array Slot, lv_has ls 4 [(0, .ref a_this), (1, .ref a_p1), (2, .int y2)] → W p l e (headSpec wsFR_readKey { frames := 5, cells := 0, slots := 0, locals := 107 }).room s m args below meth c H locs 0 0 (MQ below (va_Qi (fun (r : Int32) (u : Int32 × Int32 × Int32 × Int32 × Int32 × (Nat → Int32) × (Nat → Int32)) => post r u.1 u.2.1 u.2.2.1 u.2.2.2.1 u.2.2.2.2.1 u.2.2.2.2.2.1 u.2.2.2.2.2.2) (zB (dC, dI) A (fun (u : Int32 × Int32 × Int32 × Int32 × Int32 × (Nat → Int32) × (Nat → Int32)) => (w_FR_readKey ad a_this a_words a_words_units a_p1 a_p1_values a_p1_letters k_words_units k_p1_letters k_p1_values u.1 v_words_length u.2.1 u.2.2.1 u.2.2.2.1 v_words_units u.2.2.2.2.1 v_p1_kind u.2.2.2.2.2.1 u.2.2.2.2.2.2))) A) args s 0 0 A) (F0 m 44 ls [.int t0]) := by
  obtain ⟨hx, hb, hr, hml, hown, hts, hlocks, hA⟩ := id C0
  intro y2 t0 H locs h hP hD hS ls hl
  unfold P_FR_readKey_44 at h
  refine lv_istore_n (lv' := [(3, .int t0), (0, .ref a_this), (1, .ref a_p1), (2, .int y2)]) hx hb dFR_readKey_44 rfl hl (by decide) rfl (fun ls hl => ?_)
  refine lv_aload_n hx hb dFR_readKey_45 rfl (lv_at hl 1 rfl) ?_
  refine lv_dup hx hb dFR_readKey_46 rfl ?_
  refine va_get (D := (dC, dI)) (ci := 1) (v := .int v_this_toldKeys) (C := RFR) (T := TFR) (N := 2) hx hb hts inZ_FR hown hK hP 0 rfl rfl 1 (by decide) (hts _ zw_160) (fun _ h9 => h9) rfl dFR_readKey_47 ?_
  refine lv_iconst (v := 1) hx hb dFR_readKey_50 (by decide) ?_
  refine lv_iload_n hx hb dFR_readKey_51 rfl (lv_at hl 3 rfl) ?_
  refine lv_ishl hx hb dFR_readKey_52 ?_
  refine lv_ior hx hb dFR_readKey_53 ?_
  refine lv_topi (fun x1 ex1 => ?_)
  replace h := h x1 ex1
  refine va_put (D := (dC, dI)) (ci := 1) (v := .int x1) (ty := .int) (C := RFR) (T := TFR) (N := 2) hx hb hts inZ_FR tyFR tyFR_ok nmFR hown hK hP hD hS 0 rfl rfl 1 (by decide) (hts _ zw_160) (fun _ h9 => h9) rfl (by decide +kernel) rfl rfl (Nat.le_of_ble_eq_true rfl) dFR_readKey_54 (fun H locs hP hD hS => ?_)
  have hP : va_P (dC, dI) vwCl (w_FR_readKey ad a_this a_words a_words_units a_p1 a_p1_values a_p1_letters k_words_units k_p1_letters k_p1_values x1 v_words_length v_words_start v_words_end v_words_place v_words_units v_p1_letterCount v_p1_kind v_p1_letters v_p1_values) H := hP
  have hD : va_D A (w_FR_readKey ad a_this a_words a_words_units a_p1 a_p1_values a_p1_letters k_words_units k_p1_letters k_p1_values x1 v_words_length v_words_start v_words_end v_words_place v_words_units v_p1_letterCount v_p1_kind v_p1_letters v_p1_values) := hD
  refine lv_iload_n hx hb dFR_readKey_57 rfl (lv_at hl 0 rfl) ?_
  refine lv_if_ne (tgt := 78) hx hb dFR_readKey_58 (by decide) ?_ ?_
  · intro c2
    replace h := h.1 c2
    refine lv_iconst (v := 0) hx hb dFR_readKey_78 (by decide) ?_
    exact W.zret (v := 0) hx hb hr rfl (fun t ht hW => ⟨⟨0, (x1, v_words_start, v_words_end, v_words_place, v_p1_letterCount, v_p1_letters, v_p1_values), rfl, h, by rw [ht]; exact hP, hD⟩, hS.F ht⟩) hS.2.2 dFR_readKey_79
  · intro c2
    replace h := h.2 c2
    refine lv_aload_n hx hb dFR_readKey_61 rfl (lv_at hl 1 rfl) ?_
    refine lv_aload_n hx hb dFR_readKey_62 rfl (lv_at hl 2 rfl) ?_
    refine va_getsN hx hb hE.stKEYS hS hown ((hE.nw _ zn_596).use rfl) (fun _ h9 => h9) dFR_readKey_63 ?_
    refine lv_iload_n hx hb dFR_readKey_66 rfl (lv_at hl 3 rfl) ?_
    obtain ⟨hn3, h⟩ := h
    refine vb_tq hx hb hE.tab1 hS hn3 rfl dFR_readKey_67 ?_
    refine zcall_i hP hD hS hA [0, 1, 2, 3, 4, 5] [] (va_runV (As := [.ref a_p1, .ref (ad 1 y2.toNatClampNeg)]) (rest := []) ⟨hx, hb, hml, hown, hts⟩ (c_FR_readValues l dC dI ad a_this a_words a_words_units a_p1 a_p1_values a_p1_letters k_words_units k_p1_letters k_p1_values _ y2.toNatClampNeg x1 v_words_length v_words_start v_words_end v_words_place v_words_units v_p1_letterCount v_p1_kind v_p1_letters v_p1_values _ h) ⟨callB_of 2 hts (zgood zc_FR_readValues) rfl rfl rfl (hts _ zw_96) (hts _ zw_598) (by decide +kernel) ⟨Nat.le_of_ble_eq_true rfl, Nat.le_of_ble_eq_true rfl⟩, (hts _ zw_600), (hts _ zw_17)⟩ (zpreV hE hK hP hD hS hA [0, 1, 2, 3, 4, 5] [0, 1, 2] (by rfl) (by rfl) (by decide) (ci := 1) (q0 := 0) rfl (by rfl)) rfl rfl hl.1 rfl (lv_room (Nat.le_of_ble_eq_true rfl)) dFR_readKey_68 ⟨Nat.le_of_ble_eq_true rfl, Nat.le_of_ble_eq_true rfl⟩) (by rfl) (by rfl) (by decide) (by decide) (fun r10 u H locs h hP hD hS => ?_)
    obtain ⟨u4, u5, u6, u7, u8, u9⟩ := u
    try dsimp only at h
    have hP := hP.sub (ws' := (w_FR_readKey ad a_this a_words a_words_units a_p1 a_p1_values a_p1_letters k_words_units k_p1_letters k_p1_values x1 v_words_length u4 u5 u6 v_words_units u7 v_p1_kind u8 u9)) [0, 1, 2, 3, 4, 5] rfl
    have hD := hD.sub (ws' := (w_FR_readKey ad a_this a_words a_words_units a_p1 a_p1_values a_p1_letters k_words_units k_p1_letters k_p1_values x1 v_words_length u4 u5 u6 v_words_units u7 v_p1_kind u8 u9)) [0, 1, 2, 3, 4, 5] (by decide) rfl
    refine lv_if_eq (tgt := 78) hx hb dFR_readKey_71 (by decide) ?_ ?_
    · intro c11
      replace h := h.1 c11
      refine lv_iconst (v := 0) hx hb dFR_readKey_78 (by decide) ?_
      exact W.zret (v := 0) hx hb hr rfl (fun t ht hW => ⟨⟨0, (x1, u4, u5, u6, u7, u8, u9), rfl, h, by rw [ht]; exact hP, hD⟩, hS.F ht⟩) hS.2.2 dFR_readKey_79
    · intro c11
      replace h := h.2 c11
      refine lv_iconst (v := 1) hx hb dFR_readKey_74 (by decide) ?_
      refine lv_goto (tgt := 79) hx hb dFR_readKey_75 (by decide) ?_
      exact W.zret (v := 1) hx hb hr rfl (fun t ht hW => ⟨⟨1, (x1, u4, u5, u6, u7, u8, u9), rfl, h, by rw [ht]; exact hP, hD⟩, hS.F ht⟩) hS.2.2 dFR_readKey_79
def P_FR_readKey_2 (v_this_toldKeys : Int32) (v_words_length : Int32) (v_words_start : Int32) (v_words_end : Int32) (v_words_place : Int32) (v_words_units : Nat → Int32) (v_p1_letterCount : Int32) (v_p1_letters : Nat → Int32) (v_p1_values : Nat → Int32) (post : Int32 → Int32 → Int32 → Int32 → Int32 → Int32 → (Nat → Int32) → (Nat → Int32) → Prop) : Nat → Int32 → Prop
  | 0, _ => False
  | n + 1, y2 => ((11 ≤ y2 → post 0 v_this_toldKeys v_words_start v_words_end v_words_place v_p1_letterCount v_p1_letters v_p1_values) ∧ (¬ 11 ≤ y2 → vp_in y2 11 ∧ y2.toNatClampNeg < 11 ∧ P_Wo_are (zKey_word.getD y2.toNatClampNeg 0) v_words_start v_words_end v_words_units (fun (r4 : Int32) => ((r4 = 0 → ∀ x6 : Int32, x6 = y2 + 1 → P_FR_readKey_2 v_this_toldKeys v_words_length v_words_start v_words_end v_words_place v_words_units v_p1_letterCount v_p1_letters v_p1_values post n x6) ∧ (¬ r4 = 0 → (((v_this_toldKeys &&& (1 <<< (y2 &&& 31))) = 0 → P_FR_readKey_44 v_this_toldKeys v_words_length v_words_start v_words_end v_words_place v_words_units v_p1_letterCount v_p1_letters v_p1_values post y2 0) ∧ (¬ (v_this_toldKeys &&& (1 <<< (y2 &&& 31))) = 0 → P_FR_readKey_44 v_this_toldKeys v_words_length v_words_start v_words_end v_words_place v_words_units v_p1_letterCount v_p1_letters v_p1_values post y2 1)))))))
set_option maxHeartbeats 4000000 in
set_option maxRecDepth 100000 in
theorem w_FR_readKey_2 (l : Launch) {p : Program} {e : Env} {s : State} {m : MethodId} {args : Array Value} {below : List Frame} {meth : Method} {c : Code} {dC : Nat → ClassId} {dI : Nat → Nat → Nat} {ad : Nat → Nat → Nat} {A : Nat → Prop} (C0 : zC p s m args meth c cFR_readKey 4 RFR zT (some .boolean) A) (hE : zE ad A s) (a_this : Nat) (a_words : Nat) (a_words_units : Nat) (a_p1 : Nat) (a_p1_values : Nat) (a_p1_letters : Nat) (k_words_units : ClassId) (k_p1_letters : ClassId) (k_p1_values : ClassId) (v_this_toldKeys : Int32) (v_words_length : Int32) (v_words_start : Int32) (v_words_end : Int32) (v_words_place : Int32) (v_words_units : Nat → Int32) (v_p1_letterCount : Int32) (v_p1_kind : Nat) (v_p1_letters : Nat → Int32) (v_p1_values : Nat → Int32) (post : Int32 → Int32 → Int32 → Int32 → Int32 → Int32 → (Nat → Int32) → (Nat → Int32) → Prop) (hK : va_K (dC, dI) vwCl [(k_words_units, .char), (k_p1_letters, .char), (k_p1_values, .int)] s) : ∀ (n : Nat), ∀ (y2 : Int32) (H : Heap) (locs : List Loc), P_FR_readKey_2 v_this_toldKeys v_words_length v_words_start v_words_end v_words_place v_words_units v_p1_letterCount v_p1_letters v_p1_values post n y2 → va_P (dC, dI) vwCl (w_FR_readKey ad a_this a_words a_words_units a_p1 a_p1_values a_p1_letters k_words_units k_p1_letters k_p1_values v_this_toldKeys v_words_length v_words_start v_words_end v_words_place v_words_units v_p1_letterCount v_p1_kind v_p1_letters v_p1_values) H → va_D A (w_FR_readKey ad a_this a_words a_words_units a_p1 a_p1_values a_p1_letters k_words_units k_p1_letters k_p1_values v_this_toldKeys v_words_length v_words_start v_words_end v_words_place v_words_units v_p1_letterCount v_p1_kind v_p1_letters v_p1_values) → va_S A s.heap H locs → ∀ ls : Array Slot, lv_has ls 4 [(0, .ref a_this), (1, .ref a_p1), (2, .int y2)] → W p l e (headSpec wsFR_readKey { frames := 5, cells := 0, slots := 0, locals := 107 }).room s m args below meth c H locs 0 0 (MQ below (va_Qi (fun (r : Int32) (u : Int32 × Int32 × Int32 × Int32 × Int32 × (Nat → Int32) × (Nat → Int32)) => post r u.1 u.2.1 u.2.2.1 u.2.2.2.1 u.2.2.2.2.1 u.2.2.2.2.2.1 u.2.2.2.2.2.2) (zB (dC, dI) A (fun (u : Int32 × Int32 × Int32 × Int32 × Int32 × (Nat → Int32) × (Nat → Int32)) => (w_FR_readKey ad a_this a_words a_words_units a_p1 a_p1_values a_p1_letters k_words_units k_p1_letters k_p1_values u.1 v_words_length u.2.1 u.2.2.1 u.2.2.2.1 v_words_units u.2.2.2.2.1 v_p1_kind u.2.2.2.2.2.1 u.2.2.2.2.2.2))) A) args s 0 0 A) (F0 m 2 ls []) := by
  obtain ⟨hx, hb, hr, hml, hown, hts, hlocks, hA⟩ := id C0
  intro n
  induction n with
  | zero =>
    intro y2 H locs h
    exact False.elim h
  | succ n ih =>
    intro y2 H locs h hP hD hS ls hl
    rw [P_FR_readKey_2] at h
    refine lv_iload_n hx hb dFR_readKey_2 rfl (lv_at hl 2 rfl) ?_
    refine va_getsN hx hb hE.stKEYS hS hown ((hE.nw _ zn_596).use rfl) (fun _ h9 => h9) dFR_readKey_3 ?_
    refine va_tlen (v := 11) hx hb hE.tab1 hS (by decide) dFR_readKey_6 ?_
    refine lv_icmp_ge (tgt := 86) hx hb dFR_readKey_7 (by decide) ?_ ?_
    · intro c1
      replace h := h.1 c1
      refine lv_iconst (v := 0) hx hb dFR_readKey_86 (by decide) ?_
      exact W.zret (v := 0) hx hb hr rfl (fun t ht hW => ⟨⟨0, (v_this_toldKeys, v_words_start, v_words_end, v_words_place, v_p1_letterCount, v_p1_letters, v_p1_values), rfl, h, by rw [ht]; exact hP, hD⟩, hS.F ht⟩) hS.2.2 dFR_readKey_87
    · intro c1
      replace h := h.2 c1
      refine lv_aload_n hx hb dFR_readKey_10 rfl (lv_at hl 0 rfl) ?_
      refine va_get (D := (dC, dI)) (ci := 1) (v := .ref a_words) (C := RFR) (T := TFR) (N := 2) hx hb hts inZ_FR hown hK hP 0 rfl rfl 0 (by decide) (hts _ zw_158) (fun _ h9 => h9) rfl dFR_readKey_11 ?_
      refine va_getsN hx hb hE.stKEYS hS hown ((hE.nw _ zn_596).use rfl) (fun _ h9 => h9) dFR_readKey_14 ?_
      refine lv_iload_n hx hb dFR_readKey_17 rfl (lv_at hl 2 rfl) ?_
      obtain ⟨hn2, h⟩ := h
      refine vb_tq hx hb hE.tab1 hS hn2 rfl dFR_readKey_18 ?_
      obtain ⟨hn3, h⟩ := h
      refine zz_getON (o := "FootprintRules$Key") (n := "word") (d := "Ljava/lang/String;") (v := .ref (ad 2 (zKey_word.getD y2.toNatClampNeg 0))) hx hb (hE.fKey_word y2.toNatClampNeg hn3) hS hown ((hE.nw _ zn_1335).use rfl) (fun _ h9 => h9) dFR_readKey_19 ?_
      refine zcall_i hP hD hS hA [1, 2] [0, 3, 4, 5] (va_runVN (As := [.ref (ad 2 (zKey_word.getD y2.toNatClampNeg 0))]) (rest := []) ⟨hx, hb, hml, hown, hts⟩ (c_Wo_are l dC dI ad a_words a_words_units k_words_units _ (zKey_word.getD y2.toNatClampNeg 0) v_words_length v_words_start v_words_end v_words_place v_words_units _ h) ⟨va_cnB 1 hts (zgood zc_Wo_are) rfl rfl rfl (hE.nw _ zn_516) (hts _ zw_97) (by decide +kernel) ⟨Nat.le_of_ble_eq_true rfl, Nat.le_of_ble_eq_true rfl⟩, (hts _ zw_518), (hts _ zw_10)⟩ (zpreV hE hK hP hD hS hA [1, 2] [0] (by rfl) (by rfl) (by decide) (ci := 0) (q0 := 1) rfl (by rfl)) rfl rfl hl.1 rfl (lv_room (Nat.le_of_ble_eq_true rfl)) dFR_readKey_22 ⟨Nat.le_of_ble_eq_true rfl, Nat.le_of_ble_eq_true rfl⟩) (by rfl) (by rfl) (by decide) (by decide) (fun r4 u H locs h hP hD hS => ?_)
      try dsimp only at h
      have hP := hP.sub (ws' := (w_FR_readKey ad a_this a_words a_words_units a_p1 a_p1_values a_p1_letters k_words_units k_p1_letters k_p1_values v_this_toldKeys v_words_length v_words_start v_words_end v_words_place v_words_units v_p1_letterCount v_p1_kind v_p1_letters v_p1_values)) [0, 4, 5, 1, 2, 3] rfl
      have hD := hD.sub (ws' := (w_FR_readKey ad a_this a_words a_words_units a_p1 a_p1_values a_p1_letters k_words_units k_p1_letters k_p1_values v_this_toldKeys v_words_length v_words_start v_words_end v_words_place v_words_units v_p1_letterCount v_p1_kind v_p1_letters v_p1_values)) [0, 4, 5, 1, 2, 3] (by decide) rfl
      refine lv_if_eq (tgt := 80) hx hb dFR_readKey_25 (by decide) ?_ ?_
      · intro c5
        replace h := h.1 c5
        obtain ⟨x6, ex6⟩ : ∃ y : Int32, y = y2 + 1 := ⟨_, rfl⟩
        replace h := h x6 ex6
        refine lv_iinc (v := x6) (lv' := [(2, .int x6), (0, .ref a_this), (1, .ref a_p1)]) hx hb dFR_readKey_80 hl (k := 2) rfl (by rw [ex6]; rfl) (by decide) rfl (fun ls hl => ?_)
        refine lv_goto (tgt := 2) hx hb dFR_readKey_83 (by decide) ?_
        exact ih x6 _ _ h hP hD hS ls (lv_sub hl [1, 2, 0] rfl)
      · intro c5
        replace h := h.2 c5
        refine lv_aload_n hx hb dFR_readKey_28 rfl (lv_at hl 0 rfl) ?_
        refine va_get (D := (dC, dI)) (ci := 1) (v := .int v_this_toldKeys) (C := RFR) (T := TFR) (N := 2) hx hb hts inZ_FR hown hK hP 0 rfl rfl 1 (by decide) (hts _ zw_160) (fun _ h9 => h9) rfl dFR_readKey_29 ?_
        refine lv_iconst (v := 1) hx hb dFR_readKey_32 (by decide) ?_
        refine lv_iload_n hx hb dFR_readKey_33 rfl (lv_at hl 2 rfl) ?_
        refine lv_ishl hx hb dFR_readKey_34 ?_
        refine lv_iand hx hb dFR_readKey_35 ?_
        refine lv_if_eq (tgt := 43) hx hb dFR_readKey_36 (by decide) ?_ ?_
        · intro c7
          replace h := h.1 c7
          refine lv_iconst (v := 0) hx hb dFR_readKey_43 (by decide) ?_
          exact w_FR_readKey_44 l C0 hE a_this a_words a_words_units a_p1 a_p1_values a_p1_letters k_words_units k_p1_letters k_p1_values v_this_toldKeys v_words_length v_words_start v_words_end v_words_place v_words_units v_p1_letterCount v_p1_kind v_p1_letters v_p1_values post hK y2 0 _ _ h hP hD hS ls (lv_sub hl [0, 1, 2] rfl)
        · intro c7
          replace h := h.2 c7
          refine lv_iconst (v := 1) hx hb dFR_readKey_39 (by decide) ?_
          refine lv_goto (tgt := 44) hx hb dFR_readKey_40 (by decide) ?_
          exact w_FR_readKey_44 l C0 hE a_this a_words a_words_units a_p1 a_p1_values a_p1_letters k_words_units k_p1_letters k_p1_values v_this_toldKeys v_words_length v_words_start v_words_end v_words_place v_words_units v_p1_letterCount v_p1_kind v_p1_letters v_p1_values post hK y2 1 _ _ h hP hD hS ls (lv_sub hl [0, 1, 2] rfl)
def P_FR_readKey (v_this_toldKeys : Int32) (v_words_length : Int32) (v_words_start : Int32) (v_words_end : Int32) (v_words_place : Int32) (v_words_units : Nat → Int32) (v_p1_letterCount : Int32) (v_p1_letters : Nat → Int32) (v_p1_values : Nat → Int32) (post : Int32 → Int32 → Int32 → Int32 → Int32 → Int32 → (Nat → Int32) → (Nat → Int32) → Prop) : Prop := ∃ n1, P_FR_readKey_2 v_this_toldKeys v_words_length v_words_start v_words_end v_words_place v_words_units v_p1_letterCount v_p1_letters v_p1_values post n1 0
set_option maxHeartbeats 4000000 in
set_option maxRecDepth 100000 in
theorem c_FR_readKey (l : Launch) (dC : Nat → ClassId) (dI : Nat → Nat → Nat) (ad : Nat → Nat → Nat) (a_this : Nat) (a_words : Nat) (a_words_units : Nat) (a_p1 : Nat) (a_p1_values : Nat) (a_p1_letters : Nat) (k_words_units : ClassId) (k_p1_letters : ClassId) (k_p1_values : ClassId) (sz : Nat) (v_this_toldKeys : Int32) (v_words_length : Int32) (v_words_start : Int32) (v_words_end : Int32) (v_words_place : Int32) (v_words_units : Nat → Int32) (v_p1_letterCount : Int32) (v_p1_kind : Nat) (v_p1_letters : Nat → Int32) (v_p1_values : Nat → Int32) (post : Int32 → Int32 → Int32 → Int32 → Int32 → Int32 → (Nat → Int32) → (Nat → Int32) → Prop) (h : P_FR_readKey v_this_toldKeys v_words_length v_words_start v_words_end v_words_place v_words_units v_p1_letterCount v_p1_letters v_p1_values post) : zMi l yFR_readKey wsFR_readKey { frames := 5, cells := 0, slots := 0, locals := 107 } (dC, dI) ad [.ref a_this, .ref a_p1] (w_FR_readKey ad a_this a_words a_words_units a_p1 a_p1_values a_p1_letters k_words_units k_p1_letters k_p1_values v_this_toldKeys v_words_length v_words_start v_words_end v_words_place v_words_units v_p1_letterCount v_p1_kind v_p1_letters v_p1_values) [(k_words_units, .char), (k_p1_letters, .char), (k_p1_values, .int)] sz (fun (r : Int32) (u : Int32 × Int32 × Int32 × Int32 × Int32 × (Nat → Int32) × (Nat → Int32)) => post r u.1 u.2.1 u.2.2.1 u.2.2.2.1 u.2.2.2.2.1 u.2.2.2.2.2.1 u.2.2.2.2.2.2) (fun (u : Int32 × Int32 × Int32 × Int32 × Int32 × (Nat → Int32) × (Nat → Int32)) => (w_FR_readKey ad a_this a_words a_words_units a_p1 a_p1_values a_p1_letters k_words_units k_p1_letters k_p1_values u.1 v_words_length u.2.1 u.2.2.1 u.2.2.2.1 v_words_units u.2.2.2.2.1 v_p1_kind u.2.2.2.2.2.1 u.2.2.2.2.2.2)) 0 0 := by
  refine Met.ofW (cc := cFR_readKey) (maxL := 4) (ret := (some .boolean)) (by decide +kernel) rfl ?_
  intro p e s m args below meth c s₁ B hml hv
  obtain ⟨rfl, hsz, hP, hK, hD0, hE⟩ := hv
  have hx := B.exec
  have hb := B.bytes
  have hr := B.returns
  have hts0 := atoms_spec (ws := wsFR_readKey) B.pre
  have hts := fun w h => hts0 w (List.mem_cons_of_mem _ h)
  have hown : s.vm.findClass RFR = some m.cls := findClass_of_methodNamed B.named
  have hlocks := B.notSynchronized
  subst hsz
  have hD := hD0.self (sz := s.heap.size)
  generalize hAe : va_A (w_FR_readKey ad a_this a_words a_words_units a_p1 a_p1_values a_p1_letters k_words_units k_p1_letters k_p1_values v_this_toldKeys v_words_length v_words_start v_words_end v_words_place v_words_units v_p1_letterCount v_p1_kind v_p1_letters v_p1_values) s.heap.size = A at hD hE ⊢
  have hA : ∀ q : Nat, s.heap.size ≤ q → A q := fun q h => by rw [← hAe]; exact Or.inr h
  have C0 := zC.mk hx hb hr hml hown hts hlocks hA
  have hS : va_S A s.heap s.heap [] := va_S.rf
  have hl := lv_entry ([.ref a_this, .ref a_p1]) (n := 4) (Nat.le_of_ble_eq_true rfl)
  rw [lg_entry_eq]
  generalize (lg_sl ([.ref a_this, .ref a_p1]) ++ List.replicate (4 - (lg_sl ([.ref a_this, .ref a_p1])).length) Slot.unset).toArray = ls at hl ⊢
  have hl : lv_has ls 4 [(0, .ref a_this), (1, .ref a_p1)] := hl
  unfold P_FR_readKey at h
  refine lv_iconst (v := 0) hx hb dFR_readKey_0 (by decide) ?_
  refine lv_istore_n (lv' := [(2, .int 0), (0, .ref a_this), (1, .ref a_p1)]) hx hb dFR_readKey_1 rfl hl (by decide) rfl (fun ls hl => ?_)
  obtain ⟨n1, h⟩ := h
  exact w_FR_readKey_2 l C0 hE a_this a_words a_words_units a_p1 a_p1_values a_p1_letters k_words_units k_p1_letters k_p1_values v_this_toldKeys v_words_length v_words_start v_words_end v_words_place v_words_units v_p1_letterCount v_p1_kind v_p1_letters v_p1_values post hK n1 0 _ _ h hP hD hS ls (lv_sub hl [1, 2, 0] rfl)
