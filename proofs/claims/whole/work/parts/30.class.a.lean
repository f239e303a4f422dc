abbrev yCu_whole : MethodName := ⟨"FootprintRules$Cut", "whole", "(J)V"⟩
abbrev cCu_whole : ByteArray := prog_2_method_2_code
abbrev wsCu_whole : List Cond := .code yCu_whole cCu_whole 3 none :: zT
set_option maxRecDepth 100000 in
theorem zc_Cu_whole : Cond.code yCu_whole cCu_whole 3 none ∈ zT := zm 954 (by rfl) (by rfl)
theorem dCu_whole_0 : decode cCu_whole 0 = .ok (.aload_n 0, 1) := by decide +kernel
theorem dCu_whole_1 : decode cCu_whole 1 = .ok (.lconst 1, 1) := by decide +kernel
theorem dCu_whole_2 : decode cCu_whole 2 = .ok (.putfield 7, 3) := by decide +kernel
theorem dCu_whole_5 : decode cCu_whole 5 = .ok (.aload_n 0, 1) := by decide +kernel
theorem dCu_whole_6 : decode cCu_whole 6 = .ok (.lload_n 1, 1) := by decide +kernel
theorem dCu_whole_7 : decode cCu_whole 7 = .ok (.putfield 13, 3) := by decide +kernel
theorem dCu_whole_10 : decode cCu_whole 10 = .ok (.aload_n 0, 1) := by decide +kernel
theorem dCu_whole_11 : decode cCu_whole 11 = .ok (.lconst 0, 1) := by decide +kernel
theorem dCu_whole_12 : decode cCu_whole 12 = .ok (.putfield 16, 3) := by decide +kernel
theorem dCu_whole_15 : decode cCu_whole 15 = .ok (.aload_n 0, 1) := by decide +kernel
theorem dCu_whole_16 : decode cCu_whole 16 = .ok (.lconst 0, 1) := by decide +kernel
theorem dCu_whole_17 : decode cCu_whole 17 = .ok (.putfield 19, 3) := by decide +kernel
theorem dCu_whole_20 : decode cCu_whole 20 = .ok (.return_, 1) := by decide +kernel
theorem zw_249 : Cond.fieldLink "FootprintRules$Cut" 7 "FootprintRules$Cut" "parts" "J" ∈ zT := zm 249 (by decide +kernel) (by decide +kernel)
theorem zw_251 : Cond.fieldLink "FootprintRules$Cut" 13 "FootprintRules$Cut" "size" "J" ∈ zT := zm 251 (by decide +kernel) (by decide +kernel)
theorem zw_253 : Cond.fieldLink "FootprintRules$Cut" 16 "FootprintRules$Cut" "ahead" "J" ∈ zT := zm 253 (by decide +kernel) (by decide +kernel)
theorem zw_254 : Cond.fieldLink "FootprintRules$Cut" 19 "FootprintRules$Cut" "gap" "J" ∈ zT := zm 254 (by decide +kernel) (by decide +kernel)
theorem zw_951 : Cond.methodLink "FootprintRules$Cut" 22 ⟨"FootprintRules$Cut", "whole", "(J)V"⟩ ∈ zT := zm 951 (by decide +kernel) (by decide +kernel)
theorem zw_105 : Cond.initialized "FootprintRules$Cut" ∈ zT := zm 105 (by decide +kernel) (by decide +kernel)
theorem zw_953 : Cond.instanceMethod ⟨"FootprintRules$Cut", "whole", "(J)V"⟩ ∈ zT := zm 953 (by decide +kernel) (by decide +kernel)
theorem zw_60 : Cond.selects "FootprintRules$Cut" ⟨"FootprintRules$Cut", "whole", "(J)V"⟩ ⟨"FootprintRules$Cut", "whole", "(J)V"⟩ ∈ zT := zm 60 (by decide +kernel) (by decide +kernel)
theorem zw_955 : Cond.methodLink "FootprintRules$Cut" 26 ⟨"java/lang/Math", "floorDiv", "(JJ)J"⟩ ∈ zT := zm 955 (by decide +kernel) (by decide +kernel)
theorem zw_119 : Cond.initialized "java/lang/Math" ∈ zT := zm 119 (by decide +kernel) (by decide +kernel)
theorem zw_956 : Cond.static ⟨"java/lang/Math", "floorDiv", "(JJ)J"⟩ ∈ zT := zm 956 (by decide +kernel) (by decide +kernel)
theorem zw_958 : Cond.constantLong "FootprintRules$Cut" 32 2 ∈ zT := zm 958 (by decide +kernel) (by decide +kernel)
theorem zw_198 : Cond.fieldLink "FootprintRules$Spans" 9 "FootprintRules$Spans" "lows" "[J" ∈ zT := zm 198 (by decide +kernel) (by decide +kernel)
theorem zw_199 : Cond.fieldLink "FootprintRules$Spans" 15 "FootprintRules$Spans" "highs" "[J" ∈ zT := zm 199 (by decide +kernel) (by decide +kernel)
theorem zw_200 : Cond.fieldLink "FootprintRules$Spans" 18 "FootprintRules$Spans" "toldBits" "I" ∈ zT := zm 200 (by decide +kernel) (by decide +kernel)
theorem zw_201 : Cond.fieldLink "FootprintRules$Spans" 22 "FootprintRules$Spans" "exactBits" "I" ∈ zT := zm 201 (by decide +kernel) (by decide +kernel)
theorem zw_700 : Cond.methodLink "FootprintRules$Spans" 29 ⟨"FootprintRules$Spans", "areTold", "(I)Z"⟩ ∈ zT := zm 700 (by decide +kernel) (by decide +kernel)
theorem zw_100 : Cond.initialized "FootprintRules$Spans" ∈ zT := zm 100 (by decide +kernel) (by decide +kernel)
theorem zw_702 : Cond.instanceMethod ⟨"FootprintRules$Spans", "areTold", "(I)Z"⟩ ∈ zT := zm 702 (by decide +kernel) (by decide +kernel)
theorem zw_26 : Cond.selects "FootprintRules$Spans" ⟨"FootprintRules$Spans", "areTold", "(I)Z"⟩ ⟨"FootprintRules$Spans", "areTold", "(I)Z"⟩ ∈ zT := zm 26 (by decide +kernel) (by decide +kernel)
theorem zw_696 : Cond.methodLink "FootprintRules$Spans" 25 ⟨"FootprintRules$Spans", "isTold", "(I)Z"⟩ ∈ zT := zm 696 (by decide +kernel) (by decide +kernel)
theorem zw_698 : Cond.instanceMethod ⟨"FootprintRules$Spans", "isTold", "(I)Z"⟩ ∈ zT := zm 698 (by decide +kernel) (by decide +kernel)
theorem zw_25 : Cond.selects "FootprintRules$Spans" ⟨"FootprintRules$Spans", "isTold", "(I)Z"⟩ ⟨"FootprintRules$Spans", "isTold", "(I)Z"⟩ ∈ zT := zm 25 (by decide +kernel) (by decide +kernel)
theorem zw_228 : Cond.fieldLink "FootprintRules$Family" 38 "FootprintRules$Family" "letterCount" "I" ∈ zT := zm 228 (by decide +kernel) (by decide +kernel)
theorem zw_226 : Cond.fieldLink "FootprintRules$Family" 15 "FootprintRules$Family" "letters" "[C" ∈ zT := zm 226 (by decide +kernel) (by decide +kernel)
theorem zn_1333 : Cond.fieldLinkNest "FootprintRules$Family" 60 "FootprintRules$Key" "first" "I" "FootprintRules" ∈ zNW := znm 1333 (by decide +kernel) (by decide +kernel)
theorem zw_225 : Cond.fieldLink "FootprintRules$Family" 9 "FootprintRules$Family" "values" "[I" ∈ zT := zm 225 (by decide +kernel) (by decide +kernel)
theorem zw_718 : Cond.methodLink "FootprintRules$Family" 63 ⟨"FootprintRules$Family", "ofDensity", "(LFootprintRules$Key;I)J"⟩ ∈ zT := zm 718 (by decide +kernel) (by decide +kernel)
theorem zw_102 : Cond.initialized "FootprintRules$Family" ∈ zT := zm 102 (by decide +kernel) (by decide +kernel)
theorem zw_720 : Cond.instanceMethod ⟨"FootprintRules$Family", "ofDensity", "(LFootprintRules$Key;I)J"⟩ ∈ zT := zm 720 (by decide +kernel) (by decide +kernel)
theorem zw_30 : Cond.selects "FootprintRules$Family" ⟨"FootprintRules$Family", "ofDensity", "(LFootprintRules$Key;I)J"⟩ ⟨"FootprintRules$Family", "ofDensity", "(LFootprintRules$Key;I)J"⟩ ∈ zT := zm 30 (by decide +kernel) (by decide +kernel)
theorem zw_1337 : Cond.fieldLink "FootprintRules$Key" 69 "FootprintRules$Key" "least" "I" ∈ zT := zm 1337 (by decide +kernel) (by decide +kernel)
theorem zw_626 : Cond.constant "FootprintRules$Key" 72 10000000 ∈ zT := zm 626 (by decide +kernel) (by decide +kernel)
theorem zw_627 : Cond.fieldLink "FootprintRules$Key" 33 "FootprintRules$Key" "VIA" "LFootprintRules$Key;" ∈ zT := zm 627 (by decide +kernel) (by decide +kernel)
theorem zw_625 : Cond.fieldLink "FootprintRules$Key" 18 "FootprintRules$Key" "ROUNDING" "LFootprintRules$Key;" ∈ zT := zm 625 (by decide +kernel) (by decide +kernel)
theorem zw_271 : Cond.fieldLink "FootprintRules$Line" 15 "FootprintRules$Line" "length" "I" ∈ zT := zm 271 (by decide +kernel) (by decide +kernel)
theorem zw_270 : Cond.fieldLink "FootprintRules$Line" 9 "FootprintRules$Line" "units" "[C" ∈ zT := zm 270 (by decide +kernel) (by decide +kernel)
theorem zw_888 : Cond.methodLink "FootprintRules$Line" 28 ⟨"FootprintRules$Line", "addUnit", "(C)V"⟩ ∈ zT := zm 888 (by decide +kernel) (by decide +kernel)
theorem zw_106 : Cond.initialized "FootprintRules$Line" ∈ zT := zm 106 (by decide +kernel) (by decide +kernel)
theorem zw_882 : Cond.instanceMethod ⟨"FootprintRules$Line", "addUnit", "(C)V"⟩ ∈ zT := zm 882 (by decide +kernel) (by decide +kernel)
theorem zw_52 : Cond.selects "FootprintRules$Line" ⟨"FootprintRules$Line", "addUnit", "(C)V"⟩ ⟨"FootprintRules$Line", "addUnit", "(C)V"⟩ ∈ zT := zm 52 (by decide +kernel) (by decide +kernel)
theorem zw_889 : Cond.methodLink "FootprintRules$Line" 32 ⟨"java/lang/Math", "abs", "(J)J"⟩ ∈ zT := zm 889 (by decide +kernel) (by decide +kernel)
theorem zw_890 : Cond.static ⟨"java/lang/Math", "abs", "(J)J"⟩ ∈ zT := zm 890 (by decide +kernel) (by decide +kernel)
theorem zw_892 : Cond.constantLong "FootprintRules$Line" 38 10 ∈ zT := zm 892 (by decide +kernel) (by decide +kernel)
theorem zw_893 : Cond.constantLong "FootprintRules$Line" 40 48 ∈ zT := zm 893 (by decide +kernel) (by decide +kernel)
theorem zw_278 : Cond.fieldLink "FootprintRules$Footprint" 42 "FootprintRules$Footprint" "atHand" "Z" ∈ zT := zm 278 (by decide +kernel) (by decide +kernel)
theorem zw_299 : Cond.fieldLink "FootprintRules$Footprint" 46 "FootprintRules$Footprint" "isWritten" "Z" ∈ zT := zm 299 (by decide +kernel) (by decide +kernel)
theorem zw_282 : Cond.fieldLink "FootprintRules$Footprint" 49 "FootprintRules$Footprint" "count" "I" ∈ zT := zm 282 (by decide +kernel) (by decide +kernel)
theorem zw_286 : Cond.fieldLink "FootprintRules$Footprint" 53 "FootprintRules$Footprint" "thermal" "I" ∈ zT := zm 286 (by decide +kernel) (by decide +kernel)
theorem zw_288 : Cond.fieldLink "FootprintRules$Footprint" 18 "FootprintRules$Footprint" "family" "LFootprintRules$Family;" ∈ zT := zm 288 (by decide +kernel) (by decide +kernel)
theorem zw_289 : Cond.fieldLink "FootprintRules$Footprint" 56 "FootprintRules$Footprint" "density" "I" ∈ zT := zm 289 (by decide +kernel) (by decide +kernel)
theorem zw_290 : Cond.fieldLink "FootprintRules$Footprint" 59 "FootprintRules$Footprint" "outerHigh" "J" ∈ zT := zm 290 (by decide +kernel) (by decide +kernel)
theorem zw_281 : Cond.fieldLink "FootprintRules$Footprint" 9 "FootprintRules$Footprint" "cells" "[J" ∈ zT := zm 281 (by decide +kernel) (by decide +kernel)
theorem zw_818 : Cond.methodLink "FootprintRules$Footprint" 63 ⟨"FootprintRules$Footprint", "cell", "(II)J"⟩ ∈ zT := zm 818 (by decide +kernel) (by decide +kernel)
theorem zw_101 : Cond.initialized "FootprintRules$Footprint" ∈ zT := zm 101 (by decide +kernel) (by decide +kernel)
theorem zw_820 : Cond.instanceMethod ⟨"FootprintRules$Footprint", "cell", "(II)J"⟩ ∈ zT := zm 820 (by decide +kernel) (by decide +kernel)
theorem zw_46 : Cond.selects "FootprintRules$Footprint" ⟨"FootprintRules$Footprint", "cell", "(II)J"⟩ ⟨"FootprintRules$Footprint", "cell", "(II)J"⟩ ∈ zT := zm 46 (by decide +kernel) (by decide +kernel)
theorem zw_828 : Cond.constantLong "FootprintRules$Footprint" 76 2 ∈ zT := zm 828 (by decide +kernel) (by decide +kernel)
theorem zw_822 : Cond.methodLink "FootprintRules$Footprint" 67 ⟨"java/lang/Math", "min", "(JJ)J"⟩ ∈ zT := zm 822 (by decide +kernel) (by decide +kernel)
theorem zw_823 : Cond.static ⟨"java/lang/Math", "min", "(JJ)J"⟩ ∈ zT := zm 823 (by decide +kernel) (by decide +kernel)
theorem zw_825 : Cond.methodLink "FootprintRules$Footprint" 73 ⟨"java/lang/Math", "max", "(JJ)J"⟩ ∈ zT := zm 825 (by decide +kernel) (by decide +kernel)
theorem zw_826 : Cond.static ⟨"java/lang/Math", "max", "(JJ)J"⟩ ∈ zT := zm 826 (by decide +kernel) (by decide +kernel)
theorem zw_829 : Cond.fieldLink "FootprintRules$Footprint" 78 "FootprintRules$Key" "COURT" "LFootprintRules$Key;" ∈ zT := zm 829 (by decide +kernel) (by decide +kernel)
theorem zn_831 : Cond.methodLinkNest "FootprintRules$Footprint" 84 ⟨"FootprintRules$Family", "ofDensity", "(LFootprintRules$Key;I)J"⟩ "FootprintRules" ∈ zNW := znm 831 (by decide +kernel) (by decide +kernel)
theorem zw_832 : Cond.fieldLink "FootprintRules$Footprint" 88 "FootprintRules$Key" "ROUNDING" "LFootprintRules$Key;" ∈ zT := zm 832 (by decide +kernel) (by decide +kernel)
theorem zn_833 : Cond.methodLinkNest "FootprintRules$Footprint" 91 ⟨"FootprintRules$Family", "of", "(LFootprintRules$Key;)J"⟩ "FootprintRules" ∈ zNW := znm 833 (by decide +kernel) (by decide +kernel)
theorem zw_716 : Cond.instanceMethod ⟨"FootprintRules$Family", "of", "(LFootprintRules$Key;)J"⟩ ∈ zT := zm 716 (by decide +kernel) (by decide +kernel)
theorem zw_29 : Cond.selects "FootprintRules$Family" ⟨"FootprintRules$Family", "of", "(LFootprintRules$Key;)J"⟩ ⟨"FootprintRules$Family", "of", "(LFootprintRules$Key;)J"⟩ ∈ zT := zm 29 (by decide +kernel) (by decide +kernel)
theorem zw_291 : Cond.fieldLink "FootprintRules$Footprint" 22 "FootprintRules$Footprint" "yard" "[J" ∈ zT := zm 291 (by decide +kernel) (by decide +kernel)
theorem zw_743 : Cond.methodLink "FootprintRules" 192 ⟨"java/lang/Math", "floorMod", "(JJ)J"⟩ ∈ zT := zm 743 (by decide +kernel) (by decide +kernel)
theorem zw_744 : Cond.static ⟨"java/lang/Math", "floorMod", "(JJ)J"⟩ ∈ zT := zm 744 (by decide +kernel) (by decide +kernel)
theorem zn_834 : Cond.methodLinkNest "FootprintRules$Footprint" 95 ⟨"FootprintRules", "down", "(JJ)J"⟩ "FootprintRules" ∈ zNW := znm 834 (by decide +kernel) (by decide +kernel)
theorem zw_95 : Cond.initialized "FootprintRules" ∈ zT := zm 95 (by decide +kernel) (by decide +kernel)
theorem zw_778 : Cond.static ⟨"FootprintRules", "down", "(JJ)J"⟩ ∈ zT := zm 778 (by decide +kernel) (by decide +kernel)
theorem zn_835 : Cond.methodLinkNest "FootprintRules$Footprint" 98 ⟨"FootprintRules", "up", "(JJ)J"⟩ "FootprintRules" ∈ zNW := znm 835 (by decide +kernel) (by decide +kernel)
theorem zw_741 : Cond.static ⟨"FootprintRules", "up", "(JJ)J"⟩ ∈ zT := zm 741 (by decide +kernel) (by decide +kernel)
theorem zw_928 : Cond.fieldLink "FootprintRules$Footprint" 101 "FootprintRules$Key" "MASK" "LFootprintRules$Key;" ∈ zT := zm 928 (by decide +kernel) (by decide +kernel)
theorem zw_941 : Cond.fieldLink "FootprintRules$Footprint" 104 "FootprintRules$Key" "PASTE" "LFootprintRules$Key;" ∈ zT := zm 941 (by decide +kernel) (by decide +kernel)
theorem zw_943 : Cond.fieldLink "FootprintRules$Footprint" 107 "FootprintRules$Key" "PART" "LFootprintRules$Key;" ∈ zT := zm 943 (by decide +kernel) (by decide +kernel)
theorem zw_295 : Cond.fieldLink "FootprintRules$Footprint" 110 "FootprintRules$Footprint" "pasteLeft" "J" ∈ zT := zm 295 (by decide +kernel) (by decide +kernel)
theorem zw_296 : Cond.fieldLink "FootprintRules$Footprint" 113 "FootprintRules$Footprint" "pasteLow" "J" ∈ zT := zm 296 (by decide +kernel) (by decide +kernel)
theorem zw_293 : Cond.fieldLink "FootprintRules$Footprint" 28 "FootprintRules$Footprint" "columns" "LFootprintRules$Cut;" ∈ zT := zm 293 (by decide +kernel) (by decide +kernel)
theorem zw_945 : Cond.fieldLink "FootprintRules$Footprint" 116 "FootprintRules$Key" "GAP" "LFootprintRules$Key;" ∈ zT := zm 945 (by decide +kernel) (by decide +kernel)
theorem zn_947 : Cond.methodLinkNest "FootprintRules$Footprint" 119 ⟨"FootprintRules$Cut", "split", "(JJJ)V"⟩ "FootprintRules" ∈ zNW := znm 947 (by decide +kernel) (by decide +kernel)
theorem zw_949 : Cond.instanceMethod ⟨"FootprintRules$Cut", "split", "(JJJ)V"⟩ ∈ zT := zm 949 (by decide +kernel) (by decide +kernel)
theorem zw_59 : Cond.selects "FootprintRules$Cut" ⟨"FootprintRules$Cut", "split", "(JJJ)V"⟩ ⟨"FootprintRules$Cut", "split", "(JJJ)V"⟩ ∈ zT := zm 59 (by decide +kernel) (by decide +kernel)
theorem zw_294 : Cond.fieldLink "FootprintRules$Footprint" 32 "FootprintRules$Footprint" "rows" "LFootprintRules$Cut;" ∈ zT := zm 294 (by decide +kernel) (by decide +kernel)
theorem zn_959 : Cond.methodLinkNest "FootprintRules$Footprint" 123 ⟨"FootprintRules$Cut", "whole", "(J)V"⟩ "FootprintRules" ∈ zNW := znm 959 (by decide +kernel) (by decide +kernel)
theorem zn_252 : Cond.fieldLinkNest "FootprintRules$Footprint" 127 "FootprintRules$Cut" "size" "J" "FootprintRules" ∈ zNW := znm 252 (by decide +kernel) (by decide +kernel)
theorem zn_250 : Cond.fieldLinkNest "FootprintRules$Footprint" 130 "FootprintRules$Cut" "parts" "J" "FootprintRules" ∈ zNW := znm 250 (by decide +kernel) (by decide +kernel)
theorem zn_965 : Cond.methodLinkNest "FootprintRules$Footprint" 133 ⟨"FootprintRules$Cut", "start", "(J)J"⟩ "FootprintRules" ∈ zNW := znm 965 (by decide +kernel) (by decide +kernel)
theorem zw_967 : Cond.instanceMethod ⟨"FootprintRules$Cut", "start", "(J)J"⟩ ∈ zT := zm 967 (by decide +kernel) (by decide +kernel)
theorem zw_62 : Cond.selects "FootprintRules$Cut" ⟨"FootprintRules$Cut", "start", "(J)J"⟩ ⟨"FootprintRules$Cut", "start", "(J)J"⟩ ∈ zT := zm 62 (by decide +kernel) (by decide +kernel)
theorem zw_988 : Cond.fieldLink "FootprintRules$Footprint" 137 "FootprintRules$Key" "VIA" "LFootprintRules$Key;" ∈ zT := zm 988 (by decide +kernel) (by decide +kernel)
theorem zw_993 : Cond.methodLink "FootprintRules$Footprint" 140 ⟨"FootprintRules$Footprint", "viasInto", "(I)I"⟩ ∈ zT := zm 993 (by decide +kernel) (by decide +kernel)
theorem zw_986 : Cond.instanceMethod ⟨"FootprintRules$Footprint", "viasInto", "(I)I"⟩ ∈ zT := zm 986 (by decide +kernel) (by decide +kernel)
theorem zw_63 : Cond.selects "FootprintRules$Footprint" ⟨"FootprintRules$Footprint", "viasInto", "(I)I"⟩ ⟨"FootprintRules$Footprint", "viasInto", "(I)I"⟩ ∈ zT := zm 63 (by decide +kernel) (by decide +kernel)
theorem zw_754 : Cond.constantLong "FootprintRules" 198 2 ∈ zT := zm 754 (by decide +kernel) (by decide +kernel)
theorem zn_994 : Cond.methodLinkNest "FootprintRules$Footprint" 144 ⟨"FootprintRules", "middle", "(JJJ)J"⟩ "FootprintRules" ∈ zNW := znm 994 (by decide +kernel) (by decide +kernel)
theorem zw_752 : Cond.static ⟨"FootprintRules", "middle", "(JJJ)J"⟩ ∈ zT := zm 752 (by decide +kernel) (by decide +kernel)
theorem zn_230 : Cond.fieldLinkNest "FootprintRules$Footprint" 180 "FootprintRules$Family" "letterCount" "I" "FootprintRules" ∈ zNW := znm 230 (by decide +kernel) (by decide +kernel)
theorem zw_297 : Cond.fieldLink "FootprintRules$Footprint" 38 "FootprintRules$Footprint" "line" "LFootprintRules$Line;" ∈ zT := zm 297 (by decide +kernel) (by decide +kernel)
theorem zn_227 : Cond.fieldLinkNest "FootprintRules$Footprint" 183 "FootprintRules$Family" "letters" "[C" "FootprintRules" ∈ zNW := znm 227 (by decide +kernel) (by decide +kernel)
theorem zn_880 : Cond.methodLinkNest "FootprintRules$Footprint" 163 ⟨"FootprintRules$Line", "addUnit", "(C)V"⟩ "FootprintRules" ∈ zNW := znm 880 (by decide +kernel) (by decide +kernel)
theorem zn_884 : Cond.methodLinkNest "FootprintRules$Footprint" 177 ⟨"FootprintRules$Line", "addNumber", "(J)V"⟩ "FootprintRules" ∈ zNW := znm 884 (by decide +kernel) (by decide +kernel)
theorem zw_886 : Cond.instanceMethod ⟨"FootprintRules$Line", "addNumber", "(J)V"⟩ ∈ zT := zm 886 (by decide +kernel) (by decide +kernel)
theorem zw_53 : Cond.selects "FootprintRules$Line" ⟨"FootprintRules$Line", "addNumber", "(J)V"⟩ ⟨"FootprintRules$Line", "addNumber", "(J)V"⟩ ∈ zT := zm 53 (by decide +kernel) (by decide +kernel)
theorem zw_894 : Cond.constantLong "FootprintRules$Footprint" 187 1000 ∈ zT := zm 894 (by decide +kernel) (by decide +kernel)
theorem zw_174 : Cond.fieldLink "FootprintRules$HandMade" 9 "FootprintRules$HandMade" "isThere" "[Z" ∈ zT := zm 174 (by decide +kernel) (by decide +kernel)
theorem zw_176 : Cond.fieldLink "FootprintRules$HandMade" 19 "FootprintRules$HandMade" "count" "I" ∈ zT := zm 176 (by decide +kernel) (by decide +kernel)
theorem zw_175 : Cond.fieldLink "FootprintRules$HandMade" 15 "FootprintRules$HandMade" "boxes" "[J" ∈ zT := zm 175 (by decide +kernel) (by decide +kernel)
theorem zn_284 : Cond.fieldLinkNest "FootprintRules$HandMade" 23 "FootprintRules$Footprint" "count" "I" "FootprintRules" ∈ zNW := znm 284 (by decide +kernel) (by decide +kernel)
theorem zn_1006 : Cond.methodLinkNest "FootprintRules$HandMade" 26 ⟨"FootprintRules$Footprint", "cell", "(II)J"⟩ "FootprintRules" ∈ zNW := znm 1006 (by decide +kernel) (by decide +kernel)
theorem zw_1007 : Cond.constantLong "FootprintRules$HandMade" 30 80 ∈ zT := zm 1007 (by decide +kernel) (by decide +kernel)
theorem zw_1008 : Cond.methodLink "FootprintRules$HandMade" 32 ⟨"FootprintRules$HandMade", "isSame", "(ILFootprintRules$Footprint;I)Z"⟩ ∈ zT := zm 1008 (by decide +kernel) (by decide +kernel)
theorem zw_98 : Cond.initialized "FootprintRules$HandMade" ∈ zT := zm 98 (by decide +kernel) (by decide +kernel)
theorem zw_1010 : Cond.instanceMethod ⟨"FootprintRules$HandMade", "isSame", "(ILFootprintRules$Footprint;I)Z"⟩ ∈ zT := zm 1010 (by decide +kernel) (by decide +kernel)
theorem zw_66 : Cond.selects "FootprintRules$HandMade" ⟨"FootprintRules$HandMade", "isSame", "(ILFootprintRules$Footprint;I)Z"⟩ ⟨"FootprintRules$HandMade", "isSame", "(ILFootprintRules$Footprint;I)Z"⟩ ∈ zT := zm 66 (by decide +kernel) (by decide +kernel)
theorem zw_372 : Cond.fieldLink "FootprintRules" 10 "FootprintRules" "reader" "LFootprintRules$FamilyReader;" ∈ zT := zm 372 (by decide +kernel) (by decide +kernel)
theorem zn_159 : Cond.fieldLinkNest "FootprintRules" 42 "FootprintRules$FamilyReader" "words" "LFootprintRules$Words;" "FootprintRules" ∈ zNW := znm 159 (by decide +kernel) (by decide +kernel)
theorem zn_395 : Cond.methodLinkNest "FootprintRules" 46 ⟨"FootprintRules$Words", "add", "(I)Z"⟩ "FootprintRules" ∈ zNW := znm 395 (by decide +kernel) (by decide +kernel)
theorem zw_397 : Cond.instanceMethod ⟨"FootprintRules$Words", "add", "(I)Z"⟩ ∈ zT := zm 397 (by decide +kernel) (by decide +kernel)
theorem zw_0 : Cond.selects "FootprintRules$Words" ⟨"FootprintRules$Words", "add", "(I)Z"⟩ ⟨"FootprintRules$Words", "add", "(I)Z"⟩ ∈ zT := zm 0 (by decide +kernel) (by decide +kernel)
theorem zw_331 : Cond.fieldLink "FootprintRules$Maker" 12 "FootprintRules$Maker" "spans" "LFootprintRules$Spans;" ∈ zT := zm 331 (by decide +kernel) (by decide +kernel)
theorem zn_411 : Cond.methodLinkNest "FootprintRules$Maker" 29 ⟨"FootprintRules$Spans", "forget", "()V"⟩ "FootprintRules" ∈ zNW := znm 411 (by decide +kernel) (by decide +kernel)
theorem zw_413 : Cond.instanceMethod ⟨"FootprintRules$Spans", "forget", "()V"⟩ ∈ zT := zm 413 (by decide +kernel) (by decide +kernel)
theorem zw_3 : Cond.selects "FootprintRules$Spans" ⟨"FootprintRules$Spans", "forget", "()V"⟩ ⟨"FootprintRules$Spans", "forget", "()V"⟩ ∈ zT := zm 3 (by decide +kernel) (by decide +kernel)
theorem zw_335 : Cond.fieldLink "FootprintRules$Maker" 25 "FootprintRules$Maker" "print" "LFootprintRules$Footprint;" ∈ zT := zm 335 (by decide +kernel) (by decide +kernel)
theorem zn_279 : Cond.fieldLinkNest "FootprintRules$Maker" 32 "FootprintRules$Footprint" "atHand" "Z" "FootprintRules" ∈ zNW := znm 279 (by decide +kernel) (by decide +kernel)
theorem zw_333 : Cond.fieldLink "FootprintRules$Maker" 18 "FootprintRules$Maker" "leftOut" "[Z" ∈ zT := zm 333 (by decide +kernel) (by decide +kernel)
theorem zn_232 : Cond.fieldLinkNest "FootprintRules$Maker" 36 "FootprintRules$Family" "kind" "LFootprintRules$Kind;" "FootprintRules" ∈ zNW := znm 232 (by decide +kernel) (by decide +kernel)
theorem zn_692 : Cond.methodLinkNest "FootprintRules$Maker" 42 ⟨"FootprintRules$Spans", "highOf", "(I)J"⟩ "FootprintRules" ∈ zNW := znm 692 (by decide +kernel) (by decide +kernel)
theorem zw_694 : Cond.instanceMethod ⟨"FootprintRules$Spans", "highOf", "(I)J"⟩ ∈ zT := zm 694 (by decide +kernel) (by decide +kernel)
theorem zw_24 : Cond.selects "FootprintRules$Spans" ⟨"FootprintRules$Spans", "highOf", "(I)J"⟩ ⟨"FootprintRules$Spans", "highOf", "(I)J"⟩ ∈ zT := zm 24 (by decide +kernel) (by decide +kernel)
theorem zn_704 : Cond.methodLinkNest "FootprintRules$Maker" 46 ⟨"FootprintRules$Footprint", "begin", "(LFootprintRules$Family;IJ)V"⟩ "FootprintRules" ∈ zNW := znm 704 (by decide +kernel) (by decide +kernel)
theorem zw_706 : Cond.instanceMethod ⟨"FootprintRules$Footprint", "begin", "(LFootprintRules$Family;IJ)V"⟩ ∈ zT := zm 706 (by decide +kernel) (by decide +kernel)
theorem zw_27 : Cond.selects "FootprintRules$Footprint" ⟨"FootprintRules$Footprint", "begin", "(LFootprintRules$Family;IJ)V"⟩ ⟨"FootprintRules$Footprint", "begin", "(LFootprintRules$Family;IJ)V"⟩ ∈ zT := zm 27 (by decide +kernel) (by decide +kernel)
theorem zn_1338 : Cond.fieldLinkNest "FootprintRules$Maker" 50 "FootprintRules$Kind" "needed" "I" "FootprintRules" ∈ zNW := znm 1338 (by decide +kernel) (by decide +kernel)
theorem zn_708 : Cond.methodLinkNest "FootprintRules$Maker" 56 ⟨"FootprintRules$Spans", "areTold", "(I)Z"⟩ "FootprintRules" ∈ zNW := znm 708 (by decide +kernel) (by decide +kernel)
theorem zn_1339 : Cond.fieldLinkNest "FootprintRules$Maker" 60 "FootprintRules$Kind" "exact" "I" "FootprintRules" ∈ zNW := znm 1339 (by decide +kernel) (by decide +kernel)
theorem zn_709 : Cond.methodLinkNest "FootprintRules$Maker" 63 ⟨"FootprintRules$Spans", "areExact", "(I)Z"⟩ "FootprintRules" ∈ zNW := znm 709 (by decide +kernel) (by decide +kernel)
theorem zw_711 : Cond.instanceMethod ⟨"FootprintRules$Spans", "areExact", "(I)Z"⟩ ∈ zT := zm 711 (by decide +kernel) (by decide +kernel)
theorem zw_28 : Cond.selects "FootprintRules$Spans" ⟨"FootprintRules$Spans", "areExact", "(I)Z"⟩ ⟨"FootprintRules$Spans", "areExact", "(I)Z"⟩ ∈ zT := zm 28 (by decide +kernel) (by decide +kernel)
theorem zw_713 : Cond.fieldLink "FootprintRules$Maker" 66 "FootprintRules$Key" "ROUNDING" "LFootprintRules$Key;" ∈ zT := zm 713 (by decide +kernel) (by decide +kernel)
theorem zn_714 : Cond.methodLinkNest "FootprintRules$Maker" 72 ⟨"FootprintRules$Family", "of", "(LFootprintRules$Key;)J"⟩ "FootprintRules" ∈ zNW := znm 714 (by decide +kernel) (by decide +kernel)
theorem zw_337 : Cond.fieldLink "FootprintRules$Maker" 76 "FootprintRules$Maker" "rounding" "J" ∈ zT := zm 337 (by decide +kernel) (by decide +kernel)
theorem zw_722 : Cond.fieldLink "FootprintRules$Maker" 80 "FootprintRules$Key" "TOE" "LFootprintRules$Key;" ∈ zT := zm 722 (by decide +kernel) (by decide +kernel)
theorem zn_724 : Cond.methodLinkNest "FootprintRules$Maker" 83 ⟨"FootprintRules$Family", "ofDensity", "(LFootprintRules$Key;I)J"⟩ "FootprintRules" ∈ zNW := znm 724 (by decide +kernel) (by decide +kernel)
theorem zw_338 : Cond.fieldLink "FootprintRules$Maker" 87 "FootprintRules$Maker" "toe" "J" ∈ zT := zm 338 (by decide +kernel) (by decide +kernel)
theorem zw_725 : Cond.fieldLink "FootprintRules$Maker" 90 "FootprintRules$Key" "HEEL" "LFootprintRules$Key;" ∈ zT := zm 725 (by decide +kernel) (by decide +kernel)
theorem zw_339 : Cond.fieldLink "FootprintRules$Maker" 93 "FootprintRules$Maker" "heel" "J" ∈ zT := zm 339 (by decide +kernel) (by decide +kernel)
theorem zw_727 : Cond.fieldLink "FootprintRules$Maker" 96 "FootprintRules$Key" "SIDE" "LFootprintRules$Key;" ∈ zT := zm 727 (by decide +kernel) (by decide +kernel)
theorem zw_340 : Cond.fieldLink "FootprintRules$Maker" 99 "FootprintRules$Maker" "side" "J" ∈ zT := zm 340 (by decide +kernel) (by decide +kernel)
theorem zw_341 : Cond.fieldLink "FootprintRules$Maker" 102 "FootprintRules$Maker" "pitch" "J" ∈ zT := zm 341 (by decide +kernel) (by decide +kernel)
theorem zw_729 : Cond.fieldLink "FootprintRules$Maker" 105 "FootprintRules$Kind" "BALL_GRID" "LFootprintRules$Kind;" ∈ zT := zm 729 (by decide +kernel) (by decide +kernel)
theorem zw_763 : Cond.fieldLink "FootprintRules$Maker" 160 "FootprintRules$Kind" "HOLES" "LFootprintRules$Kind;" ∈ zT := zm 763 (by decide +kernel) (by decide +kernel)
theorem zw_735 : Cond.constantLong "FootprintRules$Maker" 129 2 ∈ zT := zm 735 (by decide +kernel) (by decide +kernel)
theorem zn_740 : Cond.methodLinkNest "FootprintRules$Maker" 131 ⟨"FootprintRules", "up", "(JJ)J"⟩ "FootprintRules" ∈ zNW := znm 740 (by decide +kernel) (by decide +kernel)
theorem zw_736 : Cond.methodLink "FootprintRules$Maker" 138 ⟨"FootprintRules$Maker", "upTwice", "(J)J"⟩ ∈ zT := zm 736 (by decide +kernel) (by decide +kernel)
theorem zw_99 : Cond.initialized "FootprintRules$Maker" ∈ zT := zm 99 (by decide +kernel) (by decide +kernel)
theorem zw_738 : Cond.instanceMethod ⟨"FootprintRules$Maker", "upTwice", "(J)J"⟩ ∈ zT := zm 738 (by decide +kernel) (by decide +kernel)
theorem zw_32 : Cond.selects "FootprintRules$Maker" ⟨"FootprintRules$Maker", "upTwice", "(J)J"⟩ ⟨"FootprintRules$Maker", "upTwice", "(J)J"⟩ ∈ zT := zm 32 (by decide +kernel) (by decide +kernel)
theorem zw_342 : Cond.fieldLink "FootprintRules$Maker" 189 "FootprintRules$Maker" "outer" "J" ∈ zT := zm 342 (by decide +kernel) (by decide +kernel)
theorem zn_773 : Cond.methodLinkNest "FootprintRules$Maker" 192 ⟨"FootprintRules$Spans", "lowOf", "(I)J"⟩ "FootprintRules" ∈ zNW := znm 773 (by decide +kernel) (by decide +kernel)
theorem zw_775 : Cond.instanceMethod ⟨"FootprintRules$Spans", "lowOf", "(I)J"⟩ ∈ zT := zm 775 (by decide +kernel) (by decide +kernel)
theorem zw_37 : Cond.selects "FootprintRules$Spans" ⟨"FootprintRules$Spans", "lowOf", "(I)J"⟩ ⟨"FootprintRules$Spans", "lowOf", "(I)J"⟩ ∈ zT := zm 37 (by decide +kernel) (by decide +kernel)
theorem zn_777 : Cond.methodLinkNest "FootprintRules$Maker" 195 ⟨"FootprintRules", "down", "(JJ)J"⟩ "FootprintRules" ∈ zNW := znm 777 (by decide +kernel) (by decide +kernel)
theorem zw_343 : Cond.fieldLink "FootprintRules$Maker" 198 "FootprintRules$Maker" "inner" "J" ∈ zT := zm 343 (by decide +kernel) (by decide +kernel)
theorem zw_344 : Cond.fieldLink "FootprintRules$Maker" 201 "FootprintRules$Maker" "across" "J" ∈ zT := zm 344 (by decide +kernel) (by decide +kernel)
theorem zw_345 : Cond.fieldLink "FootprintRules$Maker" 204 "FootprintRules$Maker" "hole" "J" ∈ zT := zm 345 (by decide +kernel) (by decide +kernel)
theorem zw_769 : Cond.methodLink "FootprintRules$Maker" 166 ⟨"FootprintRules$Maker", "sizeFlat", "()Z"⟩ ∈ zT := zm 769 (by decide +kernel) (by decide +kernel)
theorem zw_771 : Cond.instanceMethod ⟨"FootprintRules$Maker", "sizeFlat", "()Z"⟩ ∈ zT := zm 771 (by decide +kernel) (by decide +kernel)
theorem zw_36 : Cond.selects "FootprintRules$Maker" ⟨"FootprintRules$Maker", "sizeFlat", "()Z"⟩ ⟨"FootprintRules$Maker", "sizeFlat", "()Z"⟩ ∈ zT := zm 36 (by decide +kernel) (by decide +kernel)
theorem zw_746 : Cond.methodLink "FootprintRules$Maker" 142 ⟨"FootprintRules$Maker", "isEvenAboveZero", "(J)Z"⟩ ∈ zT := zm 746 (by decide +kernel) (by decide +kernel)
theorem zw_747 : Cond.static ⟨"FootprintRules$Maker", "isEvenAboveZero", "(J)Z"⟩ ∈ zT := zm 747 (by decide +kernel) (by decide +kernel)
theorem zw_765 : Cond.methodLink "FootprintRules$Maker" 163 ⟨"FootprintRules$Maker", "sizeHoles", "()Z"⟩ ∈ zT := zm 765 (by decide +kernel) (by decide +kernel)
theorem zw_767 : Cond.instanceMethod ⟨"FootprintRules$Maker", "sizeHoles", "()Z"⟩ ∈ zT := zm 767 (by decide +kernel) (by decide +kernel)
theorem zw_35 : Cond.selects "FootprintRules$Maker" ⟨"FootprintRules$Maker", "sizeHoles", "()Z"⟩ ⟨"FootprintRules$Maker", "sizeHoles", "()Z"⟩ ∈ zT := zm 35 (by decide +kernel) (by decide +kernel)
theorem zw_784 : Cond.fieldLink "FootprintRules$Maker" 207 "FootprintRules$Kind" "CHIP" "LFootprintRules$Kind;" ∈ zT := zm 784 (by decide +kernel) (by decide +kernel)
theorem zw_785 : Cond.fieldLink "FootprintRules$Maker" 176 "FootprintRules$Kind" "LESS" "LFootprintRules$Kind;" ∈ zT := zm 785 (by decide +kernel) (by decide +kernel)
theorem zw_787 : Cond.constantLong "FootprintRules$Maker" 210 64 ∈ zT := zm 787 (by decide +kernel) (by decide +kernel)
theorem zn_750 : Cond.methodLinkNest "FootprintRules$Maker" 148 ⟨"FootprintRules", "isWithin", "(JJJ)Z"⟩ "FootprintRules" ∈ zNW := znm 750 (by decide +kernel) (by decide +kernel)
theorem zw_657 : Cond.static ⟨"FootprintRules", "isWithin", "(JJJ)Z"⟩ ∈ zT := zm 657 (by decide +kernel) (by decide +kernel)
theorem zw_788 : Cond.constantLong "FootprintRules$Maker" 212 4 ∈ zT := zm 788 (by decide +kernel) (by decide +kernel)
theorem zw_780 : Cond.methodLink "FootprintRules$Maker" 169 ⟨"FootprintRules$Maker", "rowsFit", "(LFootprintRules$Kind;)Z"⟩ ∈ zT := zm 780 (by decide +kernel) (by decide +kernel)
theorem zw_782 : Cond.instanceMethod ⟨"FootprintRules$Maker", "rowsFit", "(LFootprintRules$Kind;)Z"⟩ ∈ zT := zm 782 (by decide +kernel) (by decide +kernel)
theorem zw_38 : Cond.selects "FootprintRules$Maker" ⟨"FootprintRules$Maker", "rowsFit", "(LFootprintRules$Kind;)Z"⟩ ⟨"FootprintRules$Maker", "rowsFit", "(LFootprintRules$Kind;)Z"⟩ ∈ zT := zm 38 (by decide +kernel) (by decide +kernel)
theorem zw_789 : Cond.methodLink "FootprintRules$Maker" 172 ⟨"FootprintRules$Maker", "padsOfSide", "(LFootprintRules$Kind;)I"⟩ ∈ zT := zm 789 (by decide +kernel) (by decide +kernel)
theorem zw_791 : Cond.instanceMethod ⟨"FootprintRules$Maker", "padsOfSide", "(LFootprintRules$Kind;)I"⟩ ∈ zT := zm 791 (by decide +kernel) (by decide +kernel)
theorem zw_39 : Cond.selects "FootprintRules$Maker" ⟨"FootprintRules$Maker", "padsOfSide", "(LFootprintRules$Kind;)I"⟩ ⟨"FootprintRules$Maker", "padsOfSide", "(LFootprintRules$Kind;)I"⟩ ∈ zT := zm 39 (by decide +kernel) (by decide +kernel)
theorem zn_751 : Cond.methodLinkNest "FootprintRules$Maker" 152 ⟨"FootprintRules", "middle", "(JJJ)J"⟩ "FootprintRules" ∈ zNW := znm 751 (by decide +kernel) (by decide +kernel)
theorem zn_283 : Cond.fieldLinkNest "FootprintRules$Maker" 116 "FootprintRules$Footprint" "count" "I" "FootprintRules" ∈ zNW := znm 283 (by decide +kernel) (by decide +kernel)
theorem zn_755 : Cond.methodLinkNest "FootprintRules$Maker" 156 ⟨"FootprintRules$Footprint", "add", "(IJJJJZJ)V"⟩ "FootprintRules" ∈ zNW := znm 755 (by decide +kernel) (by decide +kernel)
theorem zw_757 : Cond.instanceMethod ⟨"FootprintRules$Footprint", "add", "(IJJJJZJ)V"⟩ ∈ zT := zm 757 (by decide +kernel) (by decide +kernel)
theorem zw_33 : Cond.selects "FootprintRules$Footprint" ⟨"FootprintRules$Footprint", "add", "(IJJJJZJ)V"⟩ ⟨"FootprintRules$Footprint", "add", "(IJJJJZJ)V"⟩ ∈ zT := zm 33 (by decide +kernel) (by decide +kernel)
theorem zw_793 : Cond.methodLink "FootprintRules$Maker" 179 ⟨"FootprintRules$Maker", "addUpright", "(IZ)V"⟩ ∈ zT := zm 793 (by decide +kernel) (by decide +kernel)
theorem zw_795 : Cond.instanceMethod ⟨"FootprintRules$Maker", "addUpright", "(IZ)V"⟩ ∈ zT := zm 795 (by decide +kernel) (by decide +kernel)
theorem zw_40 : Cond.selects "FootprintRules$Maker" ⟨"FootprintRules$Maker", "addUpright", "(IZ)V"⟩ ⟨"FootprintRules$Maker", "addUpright", "(IZ)V"⟩ ∈ zT := zm 40 (by decide +kernel) (by decide +kernel)
theorem zw_797 : Cond.methodLink "FootprintRules$Maker" 183 ⟨"FootprintRules$Maker", "addLying", "(IZ)V"⟩ ∈ zT := zm 797 (by decide +kernel) (by decide +kernel)
theorem zw_799 : Cond.instanceMethod ⟨"FootprintRules$Maker", "addLying", "(IZ)V"⟩ ∈ zT := zm 799 (by decide +kernel) (by decide +kernel)
theorem zw_41 : Cond.selects "FootprintRules$Maker" ⟨"FootprintRules$Maker", "addLying", "(IZ)V"⟩ ⟨"FootprintRules$Maker", "addLying", "(IZ)V"⟩ ∈ zT := zm 41 (by decide +kernel) (by decide +kernel)
theorem zn_805 : Cond.methodLinkNest "FootprintRules$Maker" 135 ⟨"FootprintRules$Spans", "isTold", "(I)Z"⟩ "FootprintRules" ∈ zNW := znm 805 (by decide +kernel) (by decide +kernel)
theorem zn_287 : Cond.fieldLinkNest "FootprintRules$Maker" 214 "FootprintRules$Footprint" "thermal" "I" "FootprintRules" ∈ zNW := znm 287 (by decide +kernel) (by decide +kernel)
theorem zw_801 : Cond.methodLink "FootprintRules$Maker" 186 ⟨"FootprintRules$Maker", "addThermal", "()Z"⟩ ∈ zT := zm 801 (by decide +kernel) (by decide +kernel)
theorem zw_803 : Cond.instanceMethod ⟨"FootprintRules$Maker", "addThermal", "()Z"⟩ ∈ zT := zm 803 (by decide +kernel) (by decide +kernel)
theorem zw_42 : Cond.selects "FootprintRules$Maker" ⟨"FootprintRules$Maker", "addThermal", "()Z"⟩ ⟨"FootprintRules$Maker", "addThermal", "()Z"⟩ ∈ zT := zm 42 (by decide +kernel) (by decide +kernel)
theorem zw_759 : Cond.methodLink "FootprintRules$Maker" 112 ⟨"FootprintRules$Maker", "makeSides", "(LFootprintRules$Kind;)Z"⟩ ∈ zT := zm 759 (by decide +kernel) (by decide +kernel)
theorem zw_761 : Cond.instanceMethod ⟨"FootprintRules$Maker", "makeSides", "(LFootprintRules$Kind;)Z"⟩ ∈ zT := zm 761 (by decide +kernel) (by decide +kernel)
theorem zw_34 : Cond.selects "FootprintRules$Maker" ⟨"FootprintRules$Maker", "makeSides", "(LFootprintRules$Kind;)Z"⟩ ⟨"FootprintRules$Maker", "makeSides", "(LFootprintRules$Kind;)Z"⟩ ∈ zT := zm 34 (by decide +kernel) (by decide +kernel)
theorem zw_749 : Cond.constantLong "FootprintRules$Maker" 146 8 ∈ zT := zm 749 (by decide +kernel) (by decide +kernel)
theorem zw_731 : Cond.methodLink "FootprintRules$Maker" 108 ⟨"FootprintRules$Maker", "makeGrid", "()Z"⟩ ∈ zT := zm 731 (by decide +kernel) (by decide +kernel)
theorem zw_733 : Cond.instanceMethod ⟨"FootprintRules$Maker", "makeGrid", "()Z"⟩ ∈ zT := zm 733 (by decide +kernel) (by decide +kernel)
theorem zw_31 : Cond.selects "FootprintRules$Maker" ⟨"FootprintRules$Maker", "makeGrid", "()Z"⟩ ⟨"FootprintRules$Maker", "makeGrid", "()Z"⟩ ∈ zT := zm 31 (by decide +kernel) (by decide +kernel)
theorem zw_806 : Cond.methodLink "FootprintRules$Maker" 119 ⟨"FootprintRules$Maker", "bodyOf", "(I)J"⟩ ∈ zT := zm 806 (by decide +kernel) (by decide +kernel)
theorem zw_808 : Cond.instanceMethod ⟨"FootprintRules$Maker", "bodyOf", "(I)J"⟩ ∈ zT := zm 808 (by decide +kernel) (by decide +kernel)
theorem zw_43 : Cond.selects "FootprintRules$Maker" ⟨"FootprintRules$Maker", "bodyOf", "(I)J"⟩ ⟨"FootprintRules$Maker", "bodyOf", "(I)J"⟩ ∈ zT := zm 43 (by decide +kernel) (by decide +kernel)
theorem zw_810 : Cond.methodLink "FootprintRules$Maker" 122 ⟨"FootprintRules$Maker", "hasBody", "()Z"⟩ ∈ zT := zm 810 (by decide +kernel) (by decide +kernel)
theorem zw_812 : Cond.instanceMethod ⟨"FootprintRules$Maker", "hasBody", "()Z"⟩ ∈ zT := zm 812 (by decide +kernel) (by decide +kernel)
theorem zw_44 : Cond.selects "FootprintRules$Maker" ⟨"FootprintRules$Maker", "hasBody", "()Z"⟩ ⟨"FootprintRules$Maker", "hasBody", "()Z"⟩ ∈ zT := zm 44 (by decide +kernel) (by decide +kernel)
theorem zn_814 : Cond.methodLinkNest "FootprintRules$Maker" 125 ⟨"FootprintRules$Footprint", "layYard", "(JJZ)V"⟩ "FootprintRules" ∈ zNW := znm 814 (by decide +kernel) (by decide +kernel)
theorem zw_816 : Cond.instanceMethod ⟨"FootprintRules$Footprint", "layYard", "(JJZ)V"⟩ ∈ zT := zm 816 (by decide +kernel) (by decide +kernel)
theorem zw_45 : Cond.selects "FootprintRules$Footprint" ⟨"FootprintRules$Footprint", "layYard", "(JJZ)V"⟩ ⟨"FootprintRules$Footprint", "layYard", "(JJZ)V"⟩ ∈ zT := zm 45 (by decide +kernel) (by decide +kernel)
theorem zn_403 : Cond.methodLinkNest "FootprintRules" 67 ⟨"FootprintRules$Words", "drop", "()V"⟩ "FootprintRules" ∈ zNW := znm 403 (by decide +kernel) (by decide +kernel)
theorem zw_405 : Cond.instanceMethod ⟨"FootprintRules$Words", "drop", "()V"⟩ ∈ zT := zm 405 (by decide +kernel) (by decide +kernel)
theorem zw_1 : Cond.selects "FootprintRules$Words" ⟨"FootprintRules$Words", "drop", "()V"⟩ ⟨"FootprintRules$Words", "drop", "()V"⟩ ∈ zT := zm 1 (by decide +kernel) (by decide +kernel)
theorem zw_376 : Cond.fieldLink "FootprintRules" 32 "FootprintRules" "maker" "LFootprintRules$Maker;" ∈ zT := zm 376 (by decide +kernel) (by decide +kernel)
theorem zn_407 : Cond.methodLinkNest "FootprintRules" 178 ⟨"FootprintRules$Maker", "forget", "()V"⟩ "FootprintRules" ∈ zNW := znm 407 (by decide +kernel) (by decide +kernel)
theorem zw_409 : Cond.instanceMethod ⟨"FootprintRules$Maker", "forget", "()V"⟩ ∈ zT := zm 409 (by decide +kernel) (by decide +kernel)
theorem zw_2 : Cond.selects "FootprintRules$Maker" ⟨"FootprintRules$Maker", "forget", "()V"⟩ ⟨"FootprintRules$Maker", "forget", "()V"⟩ ∈ zT := zm 2 (by decide +kernel) (by decide +kernel)
theorem zw_375 : Cond.fieldLink "FootprintRules" 25 "FootprintRules" "handMade" "LFootprintRules$HandMade;" ∈ zT := zm 375 (by decide +kernel) (by decide +kernel)
theorem zn_415 : Cond.methodLinkNest "FootprintRules" 181 ⟨"FootprintRules$HandMade", "forget", "()V"⟩ "FootprintRules" ∈ zNW := znm 415 (by decide +kernel) (by decide +kernel)
theorem zw_417 : Cond.instanceMethod ⟨"FootprintRules$HandMade", "forget", "()V"⟩ ∈ zT := zm 417 (by decide +kernel) (by decide +kernel)
theorem zw_4 : Cond.selects "FootprintRules$HandMade" ⟨"FootprintRules$HandMade", "forget", "()V"⟩ ⟨"FootprintRules$HandMade", "forget", "()V"⟩ ∈ zT := zm 4 (by decide +kernel) (by decide +kernel)
-- FootprintRules$Cut.whole(J)V
abbrev w_Cu_whole (ad : Nat → Nat → Nat) (a_this : Nat)  (v_this_parts : Int64) (v_this_size : Int64) (v_this_ahead : Int64) (v_this_gap : Int64) : va_W := [(a_this, .inr (5, [.long v_this_parts, .long v_this_size, .long v_this_ahead, .long v_this_gap]))]
def P_Cu_whole (p1 : Int64) (post : Int64 → Int64 → Int64 → Int64 → Prop) : Prop := post 1 p1 0 0
set_option maxHeartbeats 4000000 in
set_option maxRecDepth 100000 in
theorem c_Cu_whole (l : Launch) (dC : Nat → ClassId) (dI : Nat → Nat → Nat) (ad : Nat → Nat → Nat) (a_this : Nat)  (sz : Nat) (p1 : Int64) (v_this_parts : Int64) (v_this_size : Int64) (v_this_ahead : Int64) (v_this_gap : Int64) (post : Int64 → Int64 → Int64 → Int64 → Prop) (h : P_Cu_whole p1 post) : zMv l yCu_whole wsCu_whole { frames := 0, cells := 0, slots := 0, locals := 0 } (dC, dI) ad [.ref a_this, .long p1] (w_Cu_whole ad a_this v_this_parts v_this_size v_this_ahead v_this_gap) [] sz (fun (u : Int64 × Int64 × Int64 × Int64) => post u.1 u.2.1 u.2.2.1 u.2.2.2) (fun (u : Int64 × Int64 × Int64 × Int64) => (w_Cu_whole ad a_this u.1 u.2.1 u.2.2.1 u.2.2.2)) 0 0 := by
  refine Met.ofW (cc := cCu_whole) (maxL := 3) (ret := none) (by decide +kernel) rfl ?_
  intro p e s m args below meth c s₁ B hml hv
  obtain ⟨rfl, hsz, hP, hK, hD0, hE⟩ := hv
  have hx := B.exec
  have hb := B.bytes
  have hr := B.returns
  have hts0 := atoms_spec (ws := wsCu_whole) B.pre
  have hts := fun w h => hts0 w (List.mem_cons_of_mem _ h)
  have hown : s.vm.findClass RCu = some m.cls := findClass_of_methodNamed B.named
  have hlocks := B.notSynchronized
  subst hsz
  have hD := hD0.self (sz := s.heap.size)
  generalize hAe : va_A (w_Cu_whole ad a_this v_this_parts v_this_size v_this_ahead v_this_gap) s.heap.size = A at hD hE ⊢
  have hA : ∀ q : Nat, s.heap.size ≤ q → A q := fun q h => by rw [← hAe]; exact Or.inr h
  have C0 := zC.mk hx hb hr hml hown hts hlocks hA
  have hS : va_S A s.heap s.heap [] := va_S.rf
  have hl := lv_entry ([.ref a_this, .long p1]) (n := 3) (Nat.le_of_ble_eq_true rfl)
  rw [lg_entry_eq]
  generalize (lg_sl ([.ref a_this, .long p1]) ++ List.replicate (3 - (lg_sl ([.ref a_this, .long p1])).length) Slot.unset).toArray = ls at hl ⊢
  have hl : lv_has ls 3 [(0, .ref a_this), (1, .long p1)] := hl
  unfold P_Cu_whole at h
  refine lv_aload_n hx hb dCu_whole_0 rfl (lv_at hl 0 rfl) ?_
  refine lv_lconst (v := 1) hx hb dCu_whole_1 (by decide) ?_
  refine va_put (D := (dC, dI)) (ci := 5) (v := .long 1) (ty := .long) (C := RCu) (T := TCu) (N := 4) hx hb hts inZ_Cu tyCu tyCu_ok nmCu hown hK hP hD hS 0 rfl rfl 0 (by decide) (hts _ zw_249) (fun _ h9 => h9) rfl (by decide +kernel) rfl rfl (Nat.le_of_ble_eq_true rfl) dCu_whole_2 (fun H locs hP hD hS => ?_)
  have hP : va_P (dC, dI) vwCl (w_Cu_whole ad a_this 1 v_this_size v_this_ahead v_this_gap) H := hP
  have hD : va_D A (w_Cu_whole ad a_this 1 v_this_size v_this_ahead v_this_gap) := hD
  refine lv_aload_n hx hb dCu_whole_5 rfl (lv_at hl 0 rfl) ?_
  refine lv_lload_n hx hb dCu_whole_6 rfl (lv_at hl 1 rfl) ?_
  refine va_put (D := (dC, dI)) (ci := 5) (v := .long p1) (ty := .long) (C := RCu) (T := TCu) (N := 4) hx hb hts inZ_Cu tyCu tyCu_ok nmCu hown hK hP hD hS 0 rfl rfl 1 (by decide) (hts _ zw_251) (fun _ h9 => h9) rfl (by decide +kernel) rfl rfl (Nat.le_of_ble_eq_true rfl) dCu_whole_7 (fun H locs hP hD hS => ?_)
  have hP : va_P (dC, dI) vwCl (w_Cu_whole ad a_this 1 p1 v_this_ahead v_this_gap) H := hP
  have hD : va_D A (w_Cu_whole ad a_this 1 p1 v_this_ahead v_this_gap) := hD
  refine lv_aload_n hx hb dCu_whole_10 rfl (lv_at hl 0 rfl) ?_
  refine lv_lconst (v := 0) hx hb dCu_whole_11 (by decide) ?_
  refine va_put (D := (dC, dI)) (ci := 5) (v := .long 0) (ty := .long) (C := RCu) (T := TCu) (N := 4) hx hb hts inZ_Cu tyCu tyCu_ok nmCu hown hK hP hD hS 0 rfl rfl 2 (by decide) (hts _ zw_253) (fun _ h9 => h9) rfl (by decide +kernel) rfl rfl (Nat.le_of_ble_eq_true rfl) dCu_whole_12 (fun H locs hP hD hS => ?_)
  have hP : va_P (dC, dI) vwCl (w_Cu_whole ad a_this 1 p1 0 v_this_gap) H := hP
  have hD : va_D A (w_Cu_whole ad a_this 1 p1 0 v_this_gap) := hD
  refine lv_aload_n hx hb dCu_whole_15 rfl (lv_at hl 0 rfl) ?_
  refine lv_lconst (v := 0) hx hb dCu_whole_16 (by decide) ?_
  refine va_put (D := (dC, dI)) (ci := 5) (v := .long 0) (ty := .long) (C := RCu) (T := TCu) (N := 4) hx hb hts inZ_Cu tyCu tyCu_ok nmCu hown hK hP hD hS 0 rfl rfl 3 (by decide) (hts _ zw_254) (fun _ h9 => h9) rfl (by decide +kernel) rfl rfl (Nat.le_of_ble_eq_true rfl) dCu_whole_17 (fun H locs hP hD hS => ?_)
  have hP : va_P (dC, dI) vwCl (w_Cu_whole ad a_this 1 p1 0 0) H := hP
  have hD : va_D A (w_Cu_whole ad a_this 1 p1 0 0) := hD
  exact W.vret hx hb hr (fun t ht hW => ⟨⟨(1, p1, 0, 0), rfl, h, by rw [ht]; exact hP, hD⟩, hS.F ht⟩) hS.2.2 dCu_whole_20
abbrev yCu_split : MethodName := ⟨"FootprintRules$Cut", "split", "(JJJ)V"⟩
abbrev cCu_split : ByteArray := prog_2_method_3_code
abbrev wsCu_split : List Cond := .code yCu_split cCu_split 13 none :: zT
set_option maxRecDepth 100000 in
theorem zc_Cu_split : Cond.code yCu_split cCu_split 13 none ∈ zT := zm 950 (by rfl) (by rfl)
theorem dCu_split_0 : decode cCu_split 0 = .ok (.aload_n 0, 1) := by decide +kernel
theorem dCu_split_1 : decode cCu_split 1 = .ok (.lload_n 1, 1) := by decide +kernel
theorem dCu_split_2 : decode cCu_split 2 = .ok (.invokevirtual 22, 3) := by decide +kernel
theorem dCu_split_5 : decode cCu_split 5 = .ok (.lload_n 3, 1) := by decide +kernel
theorem dCu_split_6 : decode cCu_split 6 = .ok (.lconst 1, 1) := by decide +kernel
theorem dCu_split_7 : decode cCu_split 7 = .ok (.ladd, 1) := by decide +kernel
theorem dCu_split_8 : decode cCu_split 8 = .ok (.lload 5, 2) := by decide +kernel
theorem dCu_split_10 : decode cCu_split 10 = .ok (.ladd, 1) := by decide +kernel
theorem dCu_split_11 : decode cCu_split 11 = .ok (.lstore 7, 2) := by decide +kernel
theorem dCu_split_13 : decode cCu_split 13 = .ok (.lload_n 1, 1) := by decide +kernel
theorem dCu_split_14 : decode cCu_split 14 = .ok (.lload_n 3, 1) := by decide +kernel
theorem dCu_split_15 : decode cCu_split 15 = .ok (.lcmp, 1) := by decide +kernel
theorem dCu_split_16 : decode cCu_split 16 = .ok (.ifCond .le 10, 3) := by decide +kernel
theorem dCu_split_19 : decode cCu_split 19 = .ok (.lload 7, 2) := by decide +kernel
theorem dCu_split_21 : decode cCu_split 21 = .ok (.lconst 0, 1) := by decide +kernel
theorem dCu_split_22 : decode cCu_split 22 = .ok (.lcmp, 1) := by decide +kernel
theorem dCu_split_23 : decode cCu_split 23 = .ok (.ifCond .gt 4, 3) := by decide +kernel
theorem dCu_split_26 : decode cCu_split 26 = .ok (.return_, 1) := by decide +kernel
theorem dCu_split_27 : decode cCu_split 27 = .ok (.lload_n 1, 1) := by decide +kernel
theorem dCu_split_28 : decode cCu_split 28 = .ok (.lload 5, 2) := by decide +kernel
theorem dCu_split_30 : decode cCu_split 30 = .ok (.ladd, 1) := by decide +kernel
theorem dCu_split_31 : decode cCu_split 31 = .ok (.lload 7, 2) := by decide +kernel
theorem dCu_split_33 : decode cCu_split 33 = .ok (.ldiv, 1) := by decide +kernel
theorem dCu_split_34 : decode cCu_split 34 = .ok (.lconst 1, 1) := by decide +kernel
theorem dCu_split_35 : decode cCu_split 35 = .ok (.ladd, 1) := by decide +kernel
theorem dCu_split_36 : decode cCu_split 36 = .ok (.lstore 9, 2) := by decide +kernel
theorem dCu_split_38 : decode cCu_split 38 = .ok (.lload 9, 2) := by decide +kernel
theorem dCu_split_40 : decode cCu_split 40 = .ok (.lconst 0, 1) := by decide +kernel
theorem dCu_split_41 : decode cCu_split 41 = .ok (.lcmp, 1) := by decide +kernel
theorem dCu_split_42 : decode cCu_split 42 = .ok (.ifCond .gt 4, 3) := by decide +kernel
theorem dCu_split_45 : decode cCu_split 45 = .ok (.return_, 1) := by decide +kernel
theorem dCu_split_46 : decode cCu_split 46 = .ok (.aload_n 0, 1) := by decide +kernel
theorem dCu_split_47 : decode cCu_split 47 = .ok (.lload 9, 2) := by decide +kernel
theorem dCu_split_49 : decode cCu_split 49 = .ok (.putfield 7, 3) := by decide +kernel
theorem dCu_split_52 : decode cCu_split 52 = .ok (.aload_n 0, 1) := by decide +kernel
theorem dCu_split_53 : decode cCu_split 53 = .ok (.lload 5, 2) := by decide +kernel
theorem dCu_split_55 : decode cCu_split 55 = .ok (.putfield 19, 3) := by decide +kernel
theorem dCu_split_58 : decode cCu_split 58 = .ok (.lload_n 1, 1) := by decide +kernel
theorem dCu_split_59 : decode cCu_split 59 = .ok (.aload_n 0, 1) := by decide +kernel
theorem dCu_split_60 : decode cCu_split 60 = .ok (.getfield 7, 3) := by decide +kernel
theorem dCu_split_63 : decode cCu_split 63 = .ok (.lconst 1, 1) := by decide +kernel
theorem dCu_split_64 : decode cCu_split 64 = .ok (.lsub, 1) := by decide +kernel
theorem dCu_split_65 : decode cCu_split 65 = .ok (.aload_n 0, 1) := by decide +kernel
theorem dCu_split_66 : decode cCu_split 66 = .ok (.getfield 19, 3) := by decide +kernel
theorem dCu_split_69 : decode cCu_split 69 = .ok (.lmul, 1) := by decide +kernel
theorem dCu_split_70 : decode cCu_split 70 = .ok (.lsub, 1) := by decide +kernel
theorem dCu_split_71 : decode cCu_split 71 = .ok (.lstore 11, 2) := by decide +kernel
theorem dCu_split_73 : decode cCu_split 73 = .ok (.aload_n 0, 1) := by decide +kernel
theorem dCu_split_74 : decode cCu_split 74 = .ok (.lload 11, 2) := by decide +kernel
theorem dCu_split_76 : decode cCu_split 76 = .ok (.lload 9, 2) := by decide +kernel
theorem dCu_split_78 : decode cCu_split 78 = .ok (.invokestatic 26, 3) := by decide +kernel
theorem dCu_split_81 : decode cCu_split 81 = .ok (.putfield 13, 3) := by decide +kernel
theorem dCu_split_84 : decode cCu_split 84 = .ok (.aload_n 0, 1) := by decide +kernel
theorem dCu_split_85 : decode cCu_split 85 = .ok (.lload 11, 2) := by decide +kernel
theorem dCu_split_87 : decode cCu_split 87 = .ok (.aload_n 0, 1) := by decide +kernel
theorem dCu_split_88 : decode cCu_split 88 = .ok (.getfield 13, 3) := by decide +kernel
theorem dCu_split_91 : decode cCu_split 91 = .ok (.aload_n 0, 1) := by decide +kernel
theorem dCu_split_92 : decode cCu_split 92 = .ok (.getfield 7, 3) := by decide +kernel
theorem dCu_split_95 : decode cCu_split 95 = .ok (.lmul, 1) := by decide +kernel
theorem dCu_split_96 : decode cCu_split 96 = .ok (.lsub, 1) := by decide +kernel
theorem dCu_split_97 : decode cCu_split 97 = .ok (.ldc2_w 32, 3) := by decide +kernel
theorem dCu_split_100 : decode cCu_split 100 = .ok (.ldiv, 1) := by decide +kernel
theorem dCu_split_101 : decode cCu_split 101 = .ok (.putfield 16, 3) := by decide +kernel
theorem dCu_split_104 : decode cCu_split 104 = .ok (.return_, 1) := by decide +kernel
-- FootprintRules$Cut.split(JJJ)V
abbrev w_Cu_split (ad : Nat → Nat → Nat) (a_this : Nat)  (v_this_parts : Int64) (v_this_size : Int64) (v_this_ahead : Int64) (v_this_gap : Int64) : va_W := [(a_this, .inr (5, [.long v_this_parts, .long v_this_size, .long v_this_ahead, .long v_this_gap]))]
def P_Cu_split (p1 : Int64) (p3 : Int64) (p5 : Int64) (post : Int64 → Int64 → Int64 → Int64 → Prop) : Prop := P_Cu_whole p1 (fun (u1 : Int64) (u2 : Int64) (u3 : Int64) (u4 : Int64) => ∀ x5 : Int64, x5 = (p3 + 1) + p5 → ((p1 ≤ p3 → post u1 u2 u3 u4) ∧ (¬ p1 ≤ p3 → ((0 < x5 → ¬ x5 = 0 ∧ ∀ x9 : Int64, x9 = ((p1 + p5) / x5) + 1 → ((0 < x9 → ∀ x11 : Int64, x11 = p1 - ((x9 - 1) * p5) → P_JM_floorDiv x11 x9 (fun (r12 : Int64) => ∀ x13 : Int64, x13 = (x11 - (r12 * x9)) / 2 → post x9 r12 x13 p5)) ∧ (¬ 0 < x9 → post u1 u2 u3 u4))) ∧ (¬ 0 < x5 → post u1 u2 u3 u4)))))
set_option maxHeartbeats 4000000 in
set_option maxRecDepth 100000 in
theorem c_Cu_split (l : Launch) (dC : Nat → ClassId) (dI : Nat → Nat → Nat) (ad : Nat → Nat → Nat) (a_this : Nat)  (sz : Nat) (p1 : Int64) (p3 : Int64) (p5 : Int64) (v_this_parts : Int64) (v_this_size : Int64) (v_this_ahead : Int64) (v_this_gap : Int64) (post : Int64 → Int64 → Int64 → Int64 → Prop) (h : P_Cu_split p1 p3 p5 post) : zMv l yCu_split wsCu_split { frames := 1, cells := 0, slots := 0, locals := 25 } (dC, dI) ad [.ref a_this, .long p1, .long p3, .long p5] (w_Cu_split ad a_this v_this_parts v_this_size v_this_ahead v_this_gap) [] sz (fun (u : Int64 × Int64 × Int64 × Int64) => post u.1 u.2.1 u.2.2.1 u.2.2.2) (fun (u : Int64 × Int64 × Int64 × Int64) => (w_Cu_split ad a_this u.1 u.2.1 u.2.2.1 u.2.2.2)) 0 0 := by
  refine Met.ofW (cc := cCu_split) (maxL := 13) (ret := none) (by decide +kernel) rfl ?_
  intro p e s m args below meth c s₁ B hml hv
  obtain ⟨rfl, hsz, hP, hK, hD0, hE⟩ := hv
  have hx := B.exec
  have hb := B.bytes
  have hr := B.returns
  have hts0 := atoms_spec (ws := wsCu_split) B.pre
  have hts := fun w h => hts0 w (List.mem_cons_of_mem _ h)
  have hown : s.vm.findClass RCu = some m.cls := findClass_of_methodNamed B.named
  have hlocks := B.notSynchronized
  subst hsz
  have hD := hD0.self (sz := s.heap.size)
  generalize hAe : va_A (w_Cu_split ad a_this v_this_parts v_this_size v_this_ahead v_this_gap) s.heap.size = A at hD hE ⊢
  have hA : ∀ q : Nat, s.heap.size ≤ q → A q := fun q h => by rw [← hAe]; exact Or.inr h
  have C0 := zC.mk hx hb hr hml hown hts hlocks hA
  have hS : va_S A s.heap s.heap [] := va_S.rf
  have hl := lv_entry ([.ref a_this, .long p1, .long p3, .long p5]) (n := 13) (Nat.le_of_ble_eq_true rfl)
  rw [lg_entry_eq]
  generalize (lg_sl ([.ref a_this, .long p1, .long p3, .long p5]) ++ List.replicate (13 - (lg_sl ([.ref a_this, .long p1, .long p3, .long p5])).length) Slot.unset).toArray = ls at hl ⊢
  have hl : lv_has ls 13 [(0, .ref a_this), (1, .long p1), (3, .long p3), (5, .long p5)] := hl
  unfold P_Cu_split at h
  refine lv_aload_n hx hb dCu_split_0 rfl (lv_at hl 0 rfl) ?_
  refine lv_lload_n hx hb dCu_split_1 rfl (lv_at hl 1 rfl) ?_
  refine zcall_v hP hD hS hA [0] [] (va_runV (As := [.long p1]) (rest := []) ⟨hx, hb, hml, hown, hts⟩ (c_Cu_whole l dC dI ad a_this _ p1 v_this_parts v_this_size v_this_ahead v_this_gap _ h) ⟨callB_of 1 hts (zgood zc_Cu_whole) rfl rfl rfl (hts _ zw_105) (hts _ zw_951) (by decide +kernel) ⟨Nat.le_of_ble_eq_true rfl, Nat.le_of_ble_eq_true rfl⟩, (hts _ zw_953), (hts _ zw_60)⟩ (zpreV hE hK hP hD hS hA [0] [] (by rfl) (by rfl) (by decide) (ci := 5) (q0 := 0) rfl (by rfl)) rfl rfl hl.1 rfl (lv_room (Nat.le_of_ble_eq_true rfl)) dCu_split_2 ⟨Nat.le_of_ble_eq_true rfl, Nat.le_of_ble_eq_true rfl⟩) (by rfl) (by rfl) (by decide) (by decide) (fun u H locs h hP hD hS => ?_)
  obtain ⟨u1, u2, u3, u4⟩ := u
  try dsimp only at h
  have hP := hP.sub (ws' := (w_Cu_split ad a_this u1 u2 u3 u4)) [0] rfl
  have hD := hD.sub (ws' := (w_Cu_split ad a_this u1 u2 u3 u4)) [0] (by decide) rfl
  refine lv_lload_n hx hb dCu_split_5 rfl (lv_at hl 2 rfl) ?_
  refine lv_lconst (v := 1) hx hb dCu_split_6 (by decide) ?_
  refine lv_ladd hx hb dCu_split_7 ?_
  refine lv_lload hx hb dCu_split_8 (lv_at hl 3 rfl) ?_
  refine lv_ladd hx hb dCu_split_10 ?_
  refine lv_topl (fun x5 ex5 => ?_)
  replace h := h x5 ex5
  refine lv_lstore (lv' := [(7, .long x5), (0, .ref a_this), (1, .long p1), (3, .long p3), (5, .long p5)]) hx hb dCu_split_11 hl (by decide) rfl (fun ls hl => ?_)
  refine lv_lload_n hx hb dCu_split_13 rfl (lv_at hl 2 rfl) ?_
  refine lv_lload_n hx hb dCu_split_14 rfl (lv_at hl 3 rfl) ?_
  refine zz_lcmp_le (tgt := 26) hx hb dCu_split_15 dCu_split_16 (by decide) ?_ ?_
  · intro c6
    replace h := h.1 c6
    exact W.vret hx hb hr (fun t ht hW => ⟨⟨(u1, u2, u3, u4), rfl, h, by rw [ht]; exact hP, hD⟩, hS.F ht⟩) hS.2.2 dCu_split_26
  · intro c6
    replace h := h.2 c6
    refine lv_lload hx hb dCu_split_19 (lv_at hl 0 rfl) ?_
    refine lv_lconst (v := 0) hx hb dCu_split_21 (by decide) ?_
    refine zz_lcmp_gt (tgt := 27) hx hb dCu_split_22 dCu_split_23 (by decide) ?_ ?_
    · intro c7
      replace h := h.1 c7
      refine lv_lload_n hx hb dCu_split_27 rfl (lv_at hl 2 rfl) ?_
      refine lv_lload hx hb dCu_split_28 (lv_at hl 4 rfl) ?_
      refine lv_ladd hx hb dCu_split_30 ?_
      refine lv_lload hx hb dCu_split_31 (lv_at hl 0 rfl) ?_
      obtain ⟨hn8, h⟩ := h
      refine lv_ldiv hx hb dCu_split_33 hn8 ?_
      refine lv_lconst (v := 1) hx hb dCu_split_34 (by decide) ?_
      refine lv_ladd hx hb dCu_split_35 ?_
      refine lv_topl (fun x9 ex9 => ?_)
      replace h := h x9 ex9
      refine lv_lstore (lv' := [(9, .long x9), (7, .long x5), (0, .ref a_this), (1, .long p1), (3, .long p3), (5, .long p5)]) hx hb dCu_split_36 hl (by decide) rfl (fun ls hl => ?_)
      refine lv_lload hx hb dCu_split_38 (lv_at hl 0 rfl) ?_
      refine lv_lconst (v := 0) hx hb dCu_split_40 (by decide) ?_
      refine zz_lcmp_gt (tgt := 46) hx hb dCu_split_41 dCu_split_42 (by decide) ?_ ?_
      · intro c10
        replace h := h.1 c10
        refine lv_aload_n hx hb dCu_split_46 rfl (lv_at hl 2 rfl) ?_
        refine lv_lload hx hb dCu_split_47 (lv_at hl 0 rfl) ?_
        refine va_put (D := (dC, dI)) (ci := 5) (v := .long x9) (ty := .long) (C := RCu) (T := TCu) (N := 4) hx hb hts inZ_Cu tyCu tyCu_ok nmCu hown hK hP hD hS 0 rfl rfl 0 (by decide) (hts _ zw_249) (fun _ h9 => h9) rfl (by decide +kernel) rfl rfl (Nat.le_of_ble_eq_true rfl) dCu_split_49 (fun H locs hP hD hS => ?_)
        have hP : va_P (dC, dI) vwCl (w_Cu_split ad a_this x9 u2 u3 u4) H := hP
        have hD : va_D A (w_Cu_split ad a_this x9 u2 u3 u4) := hD
        refine lv_aload_n hx hb dCu_split_52 rfl (lv_at hl 2 rfl) ?_
        refine lv_lload hx hb dCu_split_53 (lv_at hl 5 rfl) ?_
        refine va_put (D := (dC, dI)) (ci := 5) (v := .long p5) (ty := .long) (C := RCu) (T := TCu) (N := 4) hx hb hts inZ_Cu tyCu tyCu_ok nmCu hown hK hP hD hS 0 rfl rfl 3 (by decide) (hts _ zw_254) (fun _ h9 => h9) rfl (by decide +kernel) rfl rfl (Nat.le_of_ble_eq_true rfl) dCu_split_55 (fun H locs hP hD hS => ?_)
        have hP : va_P (dC, dI) vwCl (w_Cu_split ad a_this x9 u2 u3 p5) H := hP
        have hD : va_D A (w_Cu_split ad a_this x9 u2 u3 p5) := hD
        refine lv_lload_n hx hb dCu_split_58 rfl (lv_at hl 3 rfl) ?_
        refine lv_aload_n hx hb dCu_split_59 rfl (lv_at hl 2 rfl) ?_
        refine va_get (D := (dC, dI)) (ci := 5) (v := .long x9) (C := RCu) (T := TCu) (N := 4) hx hb hts inZ_Cu hown hK hP 0 rfl rfl 0 (by decide) (hts _ zw_249) (fun _ h9 => h9) rfl dCu_split_60 ?_
        refine lv_lconst (v := 1) hx hb dCu_split_63 (by decide) ?_
        refine lv_lsub hx hb dCu_split_64 ?_
        refine lv_aload_n hx hb dCu_split_65 rfl (lv_at hl 2 rfl) ?_
        refine va_get (D := (dC, dI)) (ci := 5) (v := .long p5) (C := RCu) (T := TCu) (N := 4) hx hb hts inZ_Cu hown hK hP 0 rfl rfl 3 (by decide) (hts _ zw_254) (fun _ h9 => h9) rfl dCu_split_66 ?_
        refine lv_lmul hx hb dCu_split_69 ?_
        refine lv_lsub hx hb dCu_split_70 ?_
        refine lv_topl (fun x11 ex11 => ?_)
        replace h := h x11 ex11
        refine lv_lstore (lv' := [(11, .long x11), (9, .long x9), (7, .long x5), (0, .ref a_this), (1, .long p1), (3, .long p3), (5, .long p5)]) hx hb dCu_split_71 hl (by decide) rfl (fun ls hl => ?_)
        refine lv_aload_n hx hb dCu_split_73 rfl (lv_at hl 3 rfl) ?_
        refine lv_lload hx hb dCu_split_74 (lv_at hl 0 rfl) ?_
        refine lv_lload hx hb dCu_split_76 (lv_at hl 1 rfl) ?_
        refine zcall_l hP hD hS hA [] [0] (va_runS (As := [.long x11, .long x9]) (rest := [.ref a_this]) ⟨hx, hb, hml, hown, hts⟩ (c_JM_floorDiv l dC dI ad _ x11 x9 _ h) ⟨callB_of 2 hts (zgood zc_JM_floorDiv) rfl rfl rfl (hts _ zw_119) (hts _ zw_955) (by decide +kernel) ⟨Nat.le_of_ble_eq_true rfl, Nat.le_of_ble_eq_true rfl⟩, (hts _ zw_956)⟩ (zpreS hE hK hP hD hS hA [] [] (by rfl) (by rfl) (by decide)) rfl rfl hl.1 rfl (lv_room (Nat.le_of_ble_eq_true rfl)) dCu_split_78 ⟨Nat.le_of_ble_eq_true rfl, Nat.le_of_ble_eq_true rfl⟩) (by rfl) (by rfl) (by decide) (by decide) (fun r12 u H locs h hP hD hS => ?_)
        try dsimp only at h
        have hP := hP.sub (ws' := (w_Cu_split ad a_this x9 u2 u3 p5)) [0] rfl
        have hD := hD.sub (ws' := (w_Cu_split ad a_this x9 u2 u3 p5)) [0] (by decide) rfl
        refine va_put (D := (dC, dI)) (ci := 5) (v := .long r12) (ty := .long) (C := RCu) (T := TCu) (N := 4) hx hb hts inZ_Cu tyCu tyCu_ok nmCu hown hK hP hD hS 0 rfl rfl 1 (by decide) (hts _ zw_251) (fun _ h9 => h9) rfl (by decide +kernel) rfl rfl (Nat.le_of_ble_eq_true rfl) dCu_split_81 (fun H locs hP hD hS => ?_)
        have hP : va_P (dC, dI) vwCl (w_Cu_split ad a_this x9 r12 u3 p5) H := hP
        have hD : va_D A (w_Cu_split ad a_this x9 r12 u3 p5) := hD
        refine lv_aload_n hx hb dCu_split_84 rfl (lv_at hl 3 rfl) ?_
        refine lv_lload hx hb dCu_split_85 (lv_at hl 0 rfl) ?_
        refine lv_aload_n hx hb dCu_split_87 rfl (lv_at hl 3 rfl) ?_
        refine va_get (D := (dC, dI)) (ci := 5) (v := .long r12) (C := RCu) (T := TCu) (N := 4) hx hb hts inZ_Cu hown hK hP 0 rfl rfl 1 (by decide) (hts _ zw_251) (fun _ h9 => h9) rfl dCu_split_88 ?_
        refine lv_aload_n hx hb dCu_split_91 rfl (lv_at hl 3 rfl) ?_
        refine va_get (D := (dC, dI)) (ci := 5) (v := .long x9) (C := RCu) (T := TCu) (N := 4) hx hb hts inZ_Cu hown hK hP 0 rfl rfl 0 (by decide) (hts _ zw_249) (fun _ h9 => h9) rfl dCu_split_92 ?_
        refine lv_lmul hx hb dCu_split_95 ?_
        refine lv_lsub hx hb dCu_split_96 ?_
        refine lv_ldc2 (own := RCu) (index := 32) (v := 2) hx hb hown (hts _ zw_958) dCu_split_97 ?_
        refine lv_ldiv hx hb dCu_split_100 (by decide) ?_
        refine lv_topl (fun x13 ex13 => ?_)
        replace h := h x13 ex13
        refine va_put (D := (dC, dI)) (ci := 5) (v := .long x13) (ty := .long) (C := RCu) (T := TCu) (N := 4) hx hb hts inZ_Cu tyCu tyCu_ok nmCu hown hK hP hD hS 0 rfl rfl 2 (by decide) (hts _ zw_253) (fun _ h9 => h9) rfl (by decide +kernel) rfl rfl (Nat.le_of_ble_eq_true rfl) dCu_split_101 (fun H locs hP hD hS => ?_)
        have hP : va_P (dC, dI) vwCl (w_Cu_split ad a_this x9 r12 x13 p5) H := hP
        have hD : va_D A (w_Cu_split ad a_this x9 r12 x13 p5) := hD
        exact W.vret hx hb hr (fun t ht hW => ⟨⟨(x9, r12, x13, p5), rfl, h, by rw [ht]; exact hP, hD⟩, hS.F ht⟩) hS.2.2 dCu_split_104
      · intro c10
        replace h := h.2 c10
        exact W.vret hx hb hr (fun t ht hW => ⟨⟨(u1, u2, u3, u4), rfl, h, by rw [ht]; exact hP, hD⟩, hS.F ht⟩) hS.2.2 dCu_split_45
    · intro c7
      replace h := h.2 c7
      exact W.vret hx hb hr (fun t ht hW => ⟨⟨(u1, u2, u3, u4), rfl, h, by rw [ht]; exact hP, hD⟩, hS.F ht⟩) hS.2.2 dCu_split_26
abbrev yCu_start : MethodName := ⟨"FootprintRules$Cut", "start", "(J)J"⟩
abbrev cCu_start : ByteArray := prog_2_method_4_code
abbrev wsCu_start : List Cond := .code yCu_start cCu_start 3 (some .long) :: zT
set_option maxRecDepth 100000 in
theorem zc_Cu_start : Cond.code yCu_start cCu_start 3 (some .long) ∈ zT := zm 968 (by rfl) (by rfl)
theorem dCu_start_0 : decode cCu_start 0 = .ok (.aload_n 0, 1) := by decide +kernel
theorem dCu_start_1 : decode cCu_start 1 = .ok (.getfield 16, 3) := by decide +kernel
theorem dCu_start_4 : decode cCu_start 4 = .ok (.lload_n 1, 1) := by decide +kernel
theorem dCu_start_5 : decode cCu_start 5 = .ok (.aload_n 0, 1) := by decide +kernel
theorem dCu_start_6 : decode cCu_start 6 = .ok (.getfield 13, 3) := by decide +kernel
theorem dCu_start_9 : decode cCu_start 9 = .ok (.aload_n 0, 1) := by decide +kernel
theorem dCu_start_10 : decode cCu_start 10 = .ok (.getfield 19, 3) := by decide +kernel
theorem dCu_start_13 : decode cCu_start 13 = .ok (.ladd, 1) := by decide +kernel
theorem dCu_start_14 : decode cCu_start 14 = .ok (.lmul, 1) := by decide +kernel
theorem dCu_start_15 : decode cCu_start 15 = .ok (.ladd, 1) := by decide +kernel
theorem dCu_start_16 : decode cCu_start 16 = .ok (.lreturn, 1) := by decide +kernel
-- FootprintRules$Cut.start(J)J
abbrev w_Cu_start (ad : Nat → Nat → Nat) (a_this : Nat)  (v_this_parts : Int64) (v_this_size : Int64) (v_this_ahead : Int64) (v_this_gap : Int64) : va_W := [(a_this, .inr (5, [.long v_this_parts, .long v_this_size, .long v_this_ahead, .long v_this_gap]))]
def P_Cu_start (p1 : Int64) (v_this_size : Int64) (v_this_ahead : Int64) (v_this_gap : Int64) (post : Int64 → Prop) : Prop := post (v_this_ahead + (p1 * (v_this_size + v_this_gap)))
set_option maxHeartbeats 4000000 in
set_option maxRecDepth 100000 in
theorem c_Cu_start (l : Launch) (dC : Nat → ClassId) (dI : Nat → Nat → Nat) (ad : Nat → Nat → Nat) (a_this : Nat)  (sz : Nat) (p1 : Int64) (v_this_parts : Int64) (v_this_size : Int64) (v_this_ahead : Int64) (v_this_gap : Int64) (post : Int64 → Prop) (h : P_Cu_start p1 v_this_size v_this_ahead v_this_gap post) : zMl l yCu_start wsCu_start { frames := 0, cells := 0, slots := 0, locals := 0 } (dC, dI) ad [.ref a_this, .long p1] (w_Cu_start ad a_this v_this_parts v_this_size v_this_ahead v_this_gap) [] sz (fun (r : Int64) (u : Unit) => post r) (fun (u : Unit) => (w_Cu_start ad a_this v_this_parts v_this_size v_this_ahead v_this_gap)) 0 0 := by
  refine Met.ofW (cc := cCu_start) (maxL := 3) (ret := (some .long)) (by decide +kernel) rfl ?_
  intro p e s m args below meth c s₁ B hml hv
  obtain ⟨rfl, hsz, hP, hK, hD0, hE⟩ := hv
  have hx := B.exec
  have hb := B.bytes
  have hr := B.returns
  have hts0 := atoms_spec (ws := wsCu_start) B.pre
  have hts := fun w h => hts0 w (List.mem_cons_of_mem _ h)
  have hown : s.vm.findClass RCu = some m.cls := findClass_of_methodNamed B.named
  have hlocks := B.notSynchronized
  subst hsz
  have hD := hD0.self (sz := s.heap.size)
  generalize hAe : va_A (w_Cu_start ad a_this v_this_parts v_this_size v_this_ahead v_this_gap) s.heap.size = A at hD hE ⊢
  have hA : ∀ q : Nat, s.heap.size ≤ q → A q := fun q h => by rw [← hAe]; exact Or.inr h
  have C0 := zC.mk hx hb hr hml hown hts hlocks hA
  have hS : va_S A s.heap s.heap [] := va_S.rf
  have hl := lv_entry ([.ref a_this, .long p1]) (n := 3) (Nat.le_of_ble_eq_true rfl)
  rw [lg_entry_eq]
  generalize (lg_sl ([.ref a_this, .long p1]) ++ List.replicate (3 - (lg_sl ([.ref a_this, .long p1])).length) Slot.unset).toArray = ls at hl ⊢
  have hl : lv_has ls 3 [(0, .ref a_this), (1, .long p1)] := hl
  unfold P_Cu_start at h
  refine lv_aload_n hx hb dCu_start_0 rfl (lv_at hl 0 rfl) ?_
  refine va_get (D := (dC, dI)) (ci := 5) (v := .long v_this_ahead) (C := RCu) (T := TCu) (N := 4) hx hb hts inZ_Cu hown hK hP 0 rfl rfl 2 (by decide) (hts _ zw_253) (fun _ h9 => h9) rfl dCu_start_1 ?_
  refine lv_lload_n hx hb dCu_start_4 rfl (lv_at hl 1 rfl) ?_
  refine lv_aload_n hx hb dCu_start_5 rfl (lv_at hl 0 rfl) ?_
  refine va_get (D := (dC, dI)) (ci := 5) (v := .long v_this_size) (C := RCu) (T := TCu) (N := 4) hx hb hts inZ_Cu hown hK hP 0 rfl rfl 1 (by decide) (hts _ zw_251) (fun _ h9 => h9) rfl dCu_start_6 ?_
  refine lv_aload_n hx hb dCu_start_9 rfl (lv_at hl 0 rfl) ?_
  refine va_get (D := (dC, dI)) (ci := 5) (v := .long v_this_gap) (C := RCu) (T := TCu) (N := 4) hx hb hts inZ_Cu hown hK hP 0 rfl rfl 3 (by decide) (hts _ zw_254) (fun _ h9 => h9) rfl dCu_start_10 ?_
  refine lv_ladd hx hb dCu_start_13 ?_
  refine lv_lmul hx hb dCu_start_14 ?_
  refine lv_ladd hx hb dCu_start_15 ?_
  exact W.lret (v := (v_this_ahead + (p1 * (v_this_size + v_this_gap)))) hx hb hr (fun t ht hW => ⟨⟨(v_this_ahead + (p1 * (v_this_size + v_this_gap))), (()), rfl, h, by rw [ht]; exact hP, hD⟩, hS.F ht⟩) hS.2.2 dCu_start_16
abbrev ySp_tell : MethodName := ⟨"FootprintRules$Spans", "tell", "(IJJ)Z"⟩
abbrev cSp_tell : ByteArray := prog_11_method_2_code
abbrev wsSp_tell : List Cond := .code ySp_tell cSp_tell 6 (some .boolean) :: zT
set_option maxRecDepth 100000 in
theorem zc_Sp_tell : Cond.code ySp_tell cSp_tell 6 (some .boolean) ∈ zT := zm 678 (by rfl) (by rfl)
theorem dSp_tell_0 : decode cSp_tell 0 = .ok (.lload_n 2, 1) := by decide +kernel
theorem dSp_tell_1 : decode cSp_tell 1 = .ok (.lload 4, 2) := by decide +kernel
theorem dSp_tell_3 : decode cSp_tell 3 = .ok (.lcmp, 1) := by decide +kernel
theorem dSp_tell_4 : decode cSp_tell 4 = .ok (.ifCond .gt 13, 3) := by decide +kernel
theorem dSp_tell_7 : decode cSp_tell 7 = .ok (.iload_n 1, 1) := by decide +kernel
theorem dSp_tell_8 : decode cSp_tell 8 = .ok (.ifCond .lt 9, 3) := by decide +kernel
theorem dSp_tell_11 : decode cSp_tell 11 = .ok (.iload_n 1, 1) := by decide +kernel
theorem dSp_tell_12 : decode cSp_tell 12 = .ok (.bipush 12, 2) := by decide +kernel
theorem dSp_tell_14 : decode cSp_tell 14 = .ok (.if_icmp .lt 5, 3) := by decide +kernel
theorem dSp_tell_17 : decode cSp_tell 17 = .ok (.iconst 0, 1) := by decide +kernel
theorem dSp_tell_18 : decode cSp_tell 18 = .ok (.ireturn, 1) := by decide +kernel
theorem dSp_tell_19 : decode cSp_tell 19 = .ok (.aload_n 0, 1) := by decide +kernel
theorem dSp_tell_20 : decode cSp_tell 20 = .ok (.getfield 9, 3) := by decide +kernel
theorem dSp_tell_23 : decode cSp_tell 23 = .ok (.iload_n 1, 1) := by decide +kernel
theorem dSp_tell_24 : decode cSp_tell 24 = .ok (.lload_n 2, 1) := by decide +kernel
theorem dSp_tell_25 : decode cSp_tell 25 = .ok (.lastore, 1) := by decide +kernel
theorem dSp_tell_26 : decode cSp_tell 26 = .ok (.aload_n 0, 1) := by decide +kernel
theorem dSp_tell_27 : decode cSp_tell 27 = .ok (.getfield 15, 3) := by decide +kernel
theorem dSp_tell_30 : decode cSp_tell 30 = .ok (.iload_n 1, 1) := by decide +kernel
theorem dSp_tell_31 : decode cSp_tell 31 = .ok (.lload 4, 2) := by decide +kernel
theorem dSp_tell_33 : decode cSp_tell 33 = .ok (.lastore, 1) := by decide +kernel
theorem dSp_tell_34 : decode cSp_tell 34 = .ok (.aload_n 0, 1) := by decide +kernel
theorem dSp_tell_35 : decode cSp_tell 35 = .ok (.dup, 1) := by decide +kernel
theorem dSp_tell_36 : decode cSp_tell 36 = .ok (.getfield 18, 3) := by decide +kernel
theorem dSp_tell_39 : decode cSp_tell 39 = .ok (.iconst 1, 1) := by decide +kernel
theorem dSp_tell_40 : decode cSp_tell 40 = .ok (.iload_n 1, 1) := by decide +kernel
theorem dSp_tell_41 : decode cSp_tell 41 = .ok (.ishl, 1) := by decide +kernel
theorem dSp_tell_42 : decode cSp_tell 42 = .ok (.ior, 1) := by decide +kernel
theorem dSp_tell_43 : decode cSp_tell 43 = .ok (.putfield 18, 3) := by decide +kernel
theorem dSp_tell_46 : decode cSp_tell 46 = .ok (.aload_n 0, 1) := by decide +kernel
theorem dSp_tell_47 : decode cSp_tell 47 = .ok (.lload_n 2, 1) := by decide +kernel
theorem dSp_tell_48 : decode cSp_tell 48 = .ok (.lload 4, 2) := by decide +kernel
theorem dSp_tell_50 : decode cSp_tell 50 = .ok (.lcmp, 1) := by decide +kernel
theorem dSp_tell_51 : decode cSp_tell 51 = .ok (.ifCond .ne 14, 3) := by decide +kernel
theorem dSp_tell_54 : decode cSp_tell 54 = .ok (.aload_n 0, 1) := by decide +kernel
theorem dSp_tell_55 : decode cSp_tell 55 = .ok (.getfield 22, 3) := by decide +kernel
theorem dSp_tell_58 : decode cSp_tell 58 = .ok (.iconst 1, 1) := by decide +kernel
theorem dSp_tell_59 : decode cSp_tell 59 = .ok (.iload_n 1, 1) := by decide +kernel
theorem dSp_tell_60 : decode cSp_tell 60 = .ok (.ishl, 1) := by decide +kernel
theorem dSp_tell_61 : decode cSp_tell 61 = .ok (.ior, 1) := by decide +kernel
theorem dSp_tell_62 : decode cSp_tell 62 = .ok (.goto 13, 3) := by decide +kernel
theorem dSp_tell_65 : decode cSp_tell 65 = .ok (.aload_n 0, 1) := by decide +kernel
theorem dSp_tell_66 : decode cSp_tell 66 = .ok (.getfield 22, 3) := by decide +kernel
theorem dSp_tell_69 : decode cSp_tell 69 = .ok (.iconst 1, 1) := by decide +kernel
theorem dSp_tell_70 : decode cSp_tell 70 = .ok (.iload_n 1, 1) := by decide +kernel
theorem dSp_tell_71 : decode cSp_tell 71 = .ok (.ishl, 1) := by decide +kernel
theorem dSp_tell_72 : decode cSp_tell 72 = .ok (.iconst (-1), 1) := by decide +kernel
theorem dSp_tell_73 : decode cSp_tell 73 = .ok (.ixor, 1) := by decide +kernel
theorem dSp_tell_74 : decode cSp_tell 74 = .ok (.iand, 1) := by decide +kernel
theorem dSp_tell_75 : decode cSp_tell 75 = .ok (.putfield 22, 3) := by decide +kernel
theorem dSp_tell_78 : decode cSp_tell 78 = .ok (.iconst 1, 1) := by decide +kernel
theorem dSp_tell_79 : decode cSp_tell 79 = .ok (.ireturn, 1) := by decide +kernel
-- FootprintRules$Spans.tell(IJJ)Z
abbrev w_Sp_tell (ad : Nat → Nat → Nat) (a_this : Nat) (a_lows : Nat) (a_highs : Nat) (k_lows : ClassId) (k_highs : ClassId) (v_this_toldBits : Int32) (v_this_exactBits : Int32) (v_lows : Nat → Int64) (v_highs : Nat → Int64) : va_W := [(a_this, .inr (3, [.ref a_lows, .ref a_highs, .int v_this_toldBits, .int v_this_exactBits])), (a_lows, .inl (k_lows, 12, .inr (.inl v_lows))), (a_highs, .inl (k_highs, 12, .inr (.inl v_highs)))]
def P_Sp_tell (p1 : Int32) (p2 : Int64) (p4 : Int64) (v_this_toldBits : Int32) (v_this_exactBits : Int32) (v_lows : Nat → Int64) (v_highs : Nat → Int64) (post : Int32 → Int32 → Int32 → (Nat → Int64) → (Nat → Int64) → Prop) : Prop := ((p4 < p2 → post 0 v_this_toldBits v_this_exactBits v_lows v_highs) ∧ (¬ p4 < p2 → ((p1 < 0 → post 0 v_this_toldBits v_this_exactBits v_lows v_highs) ∧ (¬ p1 < 0 → ((p1 < 12 → vp_in p1 12 ∧ vp_in p1 12 ∧ ∀ x6 : Int32, x6 = v_this_toldBits ||| (1 <<< (p1 &&& 31)) → ((¬ p2 = p4 → ∀ x8 : Int32, x8 = v_this_exactBits &&& ((1 <<< (p1 &&& 31)) ^^^ (-1)) → post 1 x6 x8 (vp_updL v_lows p1.toNatClampNeg p2) (vp_updL v_highs p1.toNatClampNeg p4)) ∧ (p2 = p4 → ∀ x9 : Int32, x9 = v_this_exactBits ||| (1 <<< (p1 &&& 31)) → post 1 x6 x9 (vp_updL v_lows p1.toNatClampNeg p2) (vp_updL v_highs p1.toNatClampNeg p4)))) ∧ (¬ p1 < 12 → post 0 v_this_toldBits v_this_exactBits v_lows v_highs))))))
set_option maxHeartbeats 4000000 in
set_option maxRecDepth 100000 in
theorem c_Sp_tell (l : Launch) (dC : Nat → ClassId) (dI : Nat → Nat → Nat) (ad : Nat → Nat → Nat) (a_this : Nat) (a_lows : Nat) (a_highs : Nat) (k_lows : ClassId) (k_highs : ClassId) (sz : Nat) (p1 : Int32) (p2 : Int64) (p4 : Int64) (v_this_toldBits : Int32) (v_this_exactBits : Int32) (v_lows : Nat → Int64) (v_highs : Nat → Int64) (post : Int32 → Int32 → Int32 → (Nat → Int64) → (Nat → Int64) → Prop) (h : P_Sp_tell p1 p2 p4 v_this_toldBits v_this_exactBits v_lows v_highs post) : zMi l ySp_tell wsSp_tell { frames := 0, cells := 0, slots := 0, locals := 0 } (dC, dI) ad [.ref a_this, .int p1, .long p2, .long p4] (w_Sp_tell ad a_this a_lows a_highs k_lows k_highs v_this_toldBits v_this_exactBits v_lows v_highs) [(k_lows, .long), (k_highs, .long)] sz (fun (r : Int32) (u : Int32 × Int32 × (Nat → Int64) × (Nat → Int64)) => post r u.1 u.2.1 u.2.2.1 u.2.2.2) (fun (u : Int32 × Int32 × (Nat → Int64) × (Nat → Int64)) => (w_Sp_tell ad a_this a_lows a_highs k_lows k_highs u.1 u.2.1 u.2.2.1 u.2.2.2)) 0 0 := by
  refine Met.ofW (cc := cSp_tell) (maxL := 6) (ret := (some .boolean)) (by decide +kernel) rfl ?_
  intro p e s m args below meth c s₁ B hml hv
  obtain ⟨rfl, hsz, hP, hK, hD0, hE⟩ := hv
  have hx := B.exec
  have hb := B.bytes
  have hr := B.returns
  have hts0 := atoms_spec (ws := wsSp_tell) B.pre
  have hts := fun w h => hts0 w (List.mem_cons_of_mem _ h)
  have hown : s.vm.findClass RSp = some m.cls := findClass_of_methodNamed B.named
  have hlocks := B.notSynchronized
  subst hsz
  have hD := hD0.self (sz := s.heap.size)
  generalize hAe : va_A (w_Sp_tell ad a_this a_lows a_highs k_lows k_highs v_this_toldBits v_this_exactBits v_lows v_highs) s.heap.size = A at hD hE ⊢
  have hA : ∀ q : Nat, s.heap.size ≤ q → A q := fun q h => by rw [← hAe]; exact Or.inr h
  have C0 := zC.mk hx hb hr hml hown hts hlocks hA
  have hS : va_S A s.heap s.heap [] := va_S.rf
  have hl := lv_entry ([.ref a_this, .int p1, .long p2, .long p4]) (n := 6) (Nat.le_of_ble_eq_true rfl)
  rw [lg_entry_eq]
  generalize (lg_sl ([.ref a_this, .int p1, .long p2, .long p4]) ++ List.replicate (6 - (lg_sl ([.ref a_this, .int p1, .long p2, .long p4])).length) Slot.unset).toArray = ls at hl ⊢
  have hl : lv_has ls 6 [(0, .ref a_this), (1, .int p1), (2, .long p2), (4, .long p4)] := hl
  unfold P_Sp_tell at h
  refine lv_lload_n hx hb dSp_tell_0 rfl (lv_at hl 2 rfl) ?_
  refine lv_lload hx hb dSp_tell_1 (lv_at hl 3 rfl) ?_
  refine zz_lcmp_gt (tgt := 17) hx hb dSp_tell_3 dSp_tell_4 (by decide) ?_ ?_
  · intro c1
    replace h := h.1 c1
    refine lv_iconst (v := 0) hx hb dSp_tell_17 (by decide) ?_
    exact W.zret (v := 0) hx hb hr rfl (fun t ht hW => ⟨⟨0, (v_this_toldBits, v_this_exactBits, v_lows, v_highs), rfl, h, by rw [ht]; exact hP, hD⟩, hS.F ht⟩) hS.2.2 dSp_tell_18
  · intro c1
    replace h := h.2 c1
    refine lv_iload_n hx hb dSp_tell_7 rfl (lv_at hl 1 rfl) ?_
    refine lv_if_lt (tgt := 17) hx hb dSp_tell_8 (by decide) ?_ ?_
    · intro c2
      replace h := h.1 c2
      refine lv_iconst (v := 0) hx hb dSp_tell_17 (by decide) ?_
      exact W.zret (v := 0) hx hb hr rfl (fun t ht hW => ⟨⟨0, (v_this_toldBits, v_this_exactBits, v_lows, v_highs), rfl, h, by rw [ht]; exact hP, hD⟩, hS.F ht⟩) hS.2.2 dSp_tell_18
    · intro c2
      replace h := h.2 c2
      refine lv_iload_n hx hb dSp_tell_11 rfl (lv_at hl 1 rfl) ?_
      refine lv_bipush (v := 12) hx hb dSp_tell_12 (by decide) ?_
      refine lv_icmp_lt (tgt := 19) hx hb dSp_tell_14 (by decide) ?_ ?_
      · intro c3
        replace h := h.1 c3
        refine lv_aload_n hx hb dSp_tell_19 rfl (lv_at hl 0 rfl) ?_
        refine va_get (D := (dC, dI)) (ci := 3) (v := .ref a_lows) (C := RSp) (T := TSp) (N := 4) hx hb hts inZ_Sp hown hK hP 0 rfl rfl 0 (by decide) (hts _ zw_198) (fun _ h9 => h9) rfl dSp_tell_20 ?_
        refine lv_iload_n hx hb dSp_tell_23 rfl (lv_at hl 1 rfl) ?_
        refine lv_lload_n hx hb dSp_tell_24 rfl (lv_at hl 2 rfl) ?_
        obtain ⟨hn4, h⟩ := h
        refine va_last hx hb hK hP hD hS 1 0 rfl rfl hn4 dSp_tell_25 (fun H locs hP hD hS => ?_)
        have hP : va_P (dC, dI) vwCl (w_Sp_tell ad a_this a_lows a_highs k_lows k_highs v_this_toldBits v_this_exactBits (vp_updL v_lows p1.toNatClampNeg p2) v_highs) H := hP
        have hD : va_D A (w_Sp_tell ad a_this a_lows a_highs k_lows k_highs v_this_toldBits v_this_exactBits (vp_updL v_lows p1.toNatClampNeg p2) v_highs) := hD
        refine lv_aload_n hx hb dSp_tell_26 rfl (lv_at hl 0 rfl) ?_
        refine va_get (D := (dC, dI)) (ci := 3) (v := .ref a_highs) (C := RSp) (T := TSp) (N := 4) hx hb hts inZ_Sp hown hK hP 0 rfl rfl 1 (by decide) (hts _ zw_199) (fun _ h9 => h9) rfl dSp_tell_27 ?_
        refine lv_iload_n hx hb dSp_tell_30 rfl (lv_at hl 1 rfl) ?_
        refine lv_lload hx hb dSp_tell_31 (lv_at hl 3 rfl) ?_
        obtain ⟨hn5, h⟩ := h
        refine va_last hx hb hK hP hD hS 2 1 rfl rfl hn5 dSp_tell_33 (fun H locs hP hD hS => ?_)
        have hP : va_P (dC, dI) vwCl (w_Sp_tell ad a_this a_lows a_highs k_lows k_highs v_this_toldBits v_this_exactBits (vp_updL v_lows p1.toNatClampNeg p2) (vp_updL v_highs p1.toNatClampNeg p4)) H := hP
        have hD : va_D A (w_Sp_tell ad a_this a_lows a_highs k_lows k_highs v_this_toldBits v_this_exactBits (vp_updL v_lows p1.toNatClampNeg p2) (vp_updL v_highs p1.toNatClampNeg p4)) := hD
        refine lv_aload_n hx hb dSp_tell_34 rfl (lv_at hl 0 rfl) ?_
        refine lv_dup hx hb dSp_tell_35 rfl ?_
        refine va_get (D := (dC, dI)) (ci := 3) (v := .int v_this_toldBits) (C := RSp) (T := TSp) (N := 4) hx hb hts inZ_Sp hown hK hP 0 rfl rfl 2 (by decide) (hts _ zw_200) (fun _ h9 => h9) rfl dSp_tell_36 ?_
        refine lv_iconst (v := 1) hx hb dSp_tell_39 (by decide) ?_
        refine lv_iload_n hx hb dSp_tell_40 rfl (lv_at hl 1 rfl) ?_
        refine lv_ishl hx hb dSp_tell_41 ?_
        refine lv_ior hx hb dSp_tell_42 ?_
        refine lv_topi (fun x6 ex6 => ?_)
        replace h := h x6 ex6
        refine va_put (D := (dC, dI)) (ci := 3) (v := .int x6) (ty := .int) (C := RSp) (T := TSp) (N := 4) hx hb hts inZ_Sp tySp tySp_ok nmSp hown hK hP hD hS 0 rfl rfl 2 (by decide) (hts _ zw_200) (fun _ h9 => h9) rfl (by decide +kernel) rfl rfl (Nat.le_of_ble_eq_true rfl) dSp_tell_43 (fun H locs hP hD hS => ?_)
        have hP : va_P (dC, dI) vwCl (w_Sp_tell ad a_this a_lows a_highs k_lows k_highs x6 v_this_exactBits (vp_updL v_lows p1.toNatClampNeg p2) (vp_updL v_highs p1.toNatClampNeg p4)) H := hP
        have hD : va_D A (w_Sp_tell ad a_this a_lows a_highs k_lows k_highs x6 v_this_exactBits (vp_updL v_lows p1.toNatClampNeg p2) (vp_updL v_highs p1.toNatClampNeg p4)) := hD
        refine lv_aload_n hx hb dSp_tell_46 rfl (lv_at hl 0 rfl) ?_
        refine lv_lload_n hx hb dSp_tell_47 rfl (lv_at hl 2 rfl) ?_
        refine lv_lload hx hb dSp_tell_48 (lv_at hl 3 rfl) ?_
        refine zz_lcmp_ne (tgt := 65) hx hb dSp_tell_50 dSp_tell_51 (by decide) ?_ ?_
        · intro c7
          replace h := h.1 c7
          refine lv_aload_n hx hb dSp_tell_65 rfl (lv_at hl 0 rfl) ?_
          refine va_get (D := (dC, dI)) (ci := 3) (v := .int v_this_exactBits) (C := RSp) (T := TSp) (N := 4) hx hb hts inZ_Sp hown hK hP 0 rfl rfl 3 (by decide) (hts _ zw_201) (fun _ h9 => h9) rfl dSp_tell_66 ?_
          refine lv_iconst (v := 1) hx hb dSp_tell_69 (by decide) ?_
          refine lv_iload_n hx hb dSp_tell_70 rfl (lv_at hl 1 rfl) ?_
          refine lv_ishl hx hb dSp_tell_71 ?_
          refine lv_iconst (v := (-1)) hx hb dSp_tell_72 (by decide) ?_
          refine lv_ixor hx hb dSp_tell_73 ?_
          refine lv_iand hx hb dSp_tell_74 ?_
          refine lv_topi (fun x8 ex8 => ?_)
          replace h := h x8 ex8
          refine va_put (D := (dC, dI)) (ci := 3) (v := .int x8) (ty := .int) (C := RSp) (T := TSp) (N := 4) hx hb hts inZ_Sp tySp tySp_ok nmSp hown hK hP hD hS 0 rfl rfl 3 (by decide) (hts _ zw_201) (fun _ h9 => h9) rfl (by decide +kernel) rfl rfl (Nat.le_of_ble_eq_true rfl) dSp_tell_75 (fun H locs hP hD hS => ?_)
          have hP : va_P (dC, dI) vwCl (w_Sp_tell ad a_this a_lows a_highs k_lows k_highs x6 x8 (vp_updL v_lows p1.toNatClampNeg p2) (vp_updL v_highs p1.toNatClampNeg p4)) H := hP
          have hD : va_D A (w_Sp_tell ad a_this a_lows a_highs k_lows k_highs x6 x8 (vp_updL v_lows p1.toNatClampNeg p2) (vp_updL v_highs p1.toNatClampNeg p4)) := hD
          refine lv_iconst (v := 1) hx hb dSp_tell_78 (by decide) ?_
          exact W.zret (v := 1) hx hb hr rfl (fun t ht hW => ⟨⟨1, (x6, x8, (vp_updL v_lows p1.toNatClampNeg p2), (vp_updL v_highs p1.toNatClampNeg p4)), rfl, h, by rw [ht]; exact hP, hD⟩, hS.F ht⟩) hS.2.2 dSp_tell_79
        · intro c7
          replace h := h.2 c7
          refine lv_aload_n hx hb dSp_tell_54 rfl (lv_at hl 0 rfl) ?_
          refine va_get (D := (dC, dI)) (ci := 3) (v := .int v_this_exactBits) (C := RSp) (T := TSp) (N := 4) hx hb hts inZ_Sp hown hK hP 0 rfl rfl 3 (by decide) (hts _ zw_201) (fun _ h9 => h9) rfl dSp_tell_55 ?_
          refine lv_iconst (v := 1) hx hb dSp_tell_58 (by decide) ?_
          refine lv_iload_n hx hb dSp_tell_59 rfl (lv_at hl 1 rfl) ?_
          refine lv_ishl hx hb dSp_tell_60 ?_
          refine lv_ior hx hb dSp_tell_61 ?_
          refine lv_goto (tgt := 75) hx hb dSp_tell_62 (by decide) ?_
          refine lv_topi (fun x9 ex9 => ?_)
          replace h := h x9 ex9
          refine va_put (D := (dC, dI)) (ci := 3) (v := .int x9) (ty := .int) (C := RSp) (T := TSp) (N := 4) hx hb hts inZ_Sp tySp tySp_ok nmSp hown hK hP hD hS 0 rfl rfl 3 (by decide) (hts _ zw_201) (fun _ h9 => h9) rfl (by decide +kernel) rfl rfl (Nat.le_of_ble_eq_true rfl) dSp_tell_75 (fun H locs hP hD hS => ?_)
          have hP : va_P (dC, dI) vwCl (w_Sp_tell ad a_this a_lows a_highs k_lows k_highs x6 x9 (vp_updL v_lows p1.toNatClampNeg p2) (vp_updL v_highs p1.toNatClampNeg p4)) H := hP
          have hD : va_D A (w_Sp_tell ad a_this a_lows a_highs k_lows k_highs x6 x9 (vp_updL v_lows p1.toNatClampNeg p2) (vp_updL v_highs p1.toNatClampNeg p4)) := hD
          refine lv_iconst (v := 1) hx hb dSp_tell_78 (by decide) ?_
          exact W.zret (v := 1) hx hb hr rfl (fun t ht hW => ⟨⟨1, (x6, x9, (vp_updL v_lows p1.toNatClampNeg p2), (vp_updL v_highs p1.toNatClampNeg p4)), rfl, h, by rw [ht]; exact hP, hD⟩, hS.F ht⟩) hS.2.2 dSp_tell_79
      · intro c3
        replace h := h.2 c3
        refine lv_iconst (v := 0) hx hb dSp_tell_17 (by decide) ?_
        exact W.zret (v := 0) hx hb hr rfl (fun t ht hW => ⟨⟨0, (v_this_toldBits, v_this_exactBits, v_lows, v_highs), rfl, h, by rw [ht]; exact hP, hD⟩, hS.F ht⟩) hS.2.2 dSp_tell_18
abbrev ySp_forget : MethodName := ⟨"FootprintRules$Spans", "forget", "()V"⟩
abbrev cSp_forget : ByteArray := prog_11_method_3_code
abbrev wsSp_forget : List Cond := .code ySp_forget cSp_forget 1 none :: zT
set_option maxRecDepth 100000 in
theorem zc_Sp_forget : Cond.code ySp_forget cSp_forget 1 none ∈ zT := zm 414 (by rfl) (by rfl)
theorem dSp_forget_0 : decode cSp_forget 0 = .ok (.aload_n 0, 1) := by decide +kernel
theorem dSp_forget_1 : decode cSp_forget 1 = .ok (.iconst 0, 1) := by decide +kernel
theorem dSp_forget_2 : decode cSp_forget 2 = .ok (.putfield 18, 3) := by decide +kernel
theorem dSp_forget_5 : decode cSp_forget 5 = .ok (.aload_n 0, 1) := by decide +kernel
theorem dSp_forget_6 : decode cSp_forget 6 = .ok (.iconst 0, 1) := by decide +kernel
theorem dSp_forget_7 : decode cSp_forget 7 = .ok (.putfield 22, 3) := by decide +kernel
theorem dSp_forget_10 : decode cSp_forget 10 = .ok (.return_, 1) := by decide +kernel
-- FootprintRules$Spans.forget()V
abbrev w_Sp_forget (ad : Nat → Nat → Nat) (a_this : Nat) (a_lows : Nat) (a_highs : Nat)  (v_this_toldBits : Int32) (v_this_exactBits : Int32) : va_W := [(a_this, .inr (3, [.ref a_lows, .ref a_highs, .int v_this_toldBits, .int v_this_exactBits]))]
def P_Sp_forget  (post : Int32 → Int32 → Prop) : Prop := post 0 0
set_option maxHeartbeats 4000000 in
set_option maxRecDepth 100000 in
theorem c_Sp_forget (l : Launch) (dC : Nat → ClassId) (dI : Nat → Nat → Nat) (ad : Nat → Nat → Nat) (a_this : Nat) (a_lows : Nat) (a_highs : Nat)  (sz : Nat) (v_this_toldBits : Int32) (v_this_exactBits : Int32) (post : Int32 → Int32 → Prop) (h : P_Sp_forget post) : zMv l ySp_forget wsSp_forget { frames := 0, cells := 0, slots := 0, locals := 0 } (dC, dI) ad [.ref a_this] (w_Sp_forget ad a_this a_lows a_highs v_this_toldBits v_this_exactBits) [] sz (fun (u : Int32 × Int32) => post u.1 u.2) (fun (u : Int32 × Int32) => (w_Sp_forget ad a_this a_lows a_highs u.1 u.2)) 0 0 := by
  refine Met.ofW (cc := cSp_forget) (maxL := 1) (ret := none) (by decide +kernel) rfl ?_
  intro p e s m args below meth c s₁ B hml hv
  obtain ⟨rfl, hsz, hP, hK, hD0, hE⟩ := hv
  have hx := B.exec
  have hb := B.bytes
  have hr := B.returns
  have hts0 := atoms_spec (ws := wsSp_forget) B.pre
  have hts := fun w h => hts0 w (List.mem_cons_of_mem _ h)
  have hown : s.vm.findClass RSp = some m.cls := findClass_of_methodNamed B.named
  have hlocks := B.notSynchronized
  subst hsz
  have hD := hD0.self (sz := s.heap.size)
  generalize hAe : va_A (w_Sp_forget ad a_this a_lows a_highs v_this_toldBits v_this_exactBits) s.heap.size = A at hD hE ⊢
  have hA : ∀ q : Nat, s.heap.size ≤ q → A q := fun q h => by rw [← hAe]; exact Or.inr h
  have C0 := zC.mk hx hb hr hml hown hts hlocks hA
  have hS : va_S A s.heap s.heap [] := va_S.rf
  have hl := lv_entry ([.ref a_this]) (n := 1) (Nat.le_of_ble_eq_true rfl)
  rw [lg_entry_eq]
  generalize (lg_sl ([.ref a_this]) ++ List.replicate (1 - (lg_sl ([.ref a_this])).length) Slot.unset).toArray = ls at hl ⊢
  have hl : lv_has ls 1 [(0, .ref a_this)] := hl
  unfold P_Sp_forget at h
  refine lv_aload_n hx hb dSp_forget_0 rfl (lv_at hl 0 rfl) ?_
  refine lv_iconst (v := 0) hx hb dSp_forget_1 (by decide) ?_
  refine va_put (D := (dC, dI)) (ci := 3) (v := .int 0) (ty := .int) (C := RSp) (T := TSp) (N := 4) hx hb hts inZ_Sp tySp tySp_ok nmSp hown hK hP hD hS 0 rfl rfl 2 (by decide) (hts _ zw_200) (fun _ h9 => h9) rfl (by decide +kernel) rfl rfl (Nat.le_of_ble_eq_true rfl) dSp_forget_2 (fun H locs hP hD hS => ?_)
  have hP : va_P (dC, dI) vwCl (w_Sp_forget ad a_this a_lows a_highs 0 v_this_exactBits) H := hP
  have hD : va_D A (w_Sp_forget ad a_this a_lows a_highs 0 v_this_exactBits) := hD
  refine lv_aload_n hx hb dSp_forget_5 rfl (lv_at hl 0 rfl) ?_
  refine lv_iconst (v := 0) hx hb dSp_forget_6 (by decide) ?_
  refine va_put (D := (dC, dI)) (ci := 3) (v := .int 0) (ty := .int) (C := RSp) (T := TSp) (N := 4) hx hb hts inZ_Sp tySp tySp_ok nmSp hown hK hP hD hS 0 rfl rfl 3 (by decide) (hts _ zw_201) (fun _ h9 => h9) rfl (by decide +kernel) rfl rfl (Nat.le_of_ble_eq_true rfl) dSp_forget_7 (fun H locs hP hD hS => ?_)
  have hP : va_P (dC, dI) vwCl (w_Sp_forget ad a_this a_lows a_highs 0 0) H := hP
  have hD : va_D A (w_Sp_forget ad a_this a_lows a_highs 0 0) := hD
  exact W.vret hx hb hr (fun t ht hW => ⟨⟨(0, 0), rfl, h, by rw [ht]; exact hP, hD⟩, hS.F ht⟩) hS.2.2 dSp_forget_10
abbrev ySp_areTold : MethodName := ⟨"FootprintRules$Spans", "areTold", "(I)Z"⟩
abbrev cSp_areTold : ByteArray := prog_11_method_4_code
abbrev wsSp_areTold : List Cond := .code ySp_areTold cSp_areTold 2 (some .boolean) :: zT
set_option maxRecDepth 100000 in
theorem zc_Sp_areTold : Cond.code ySp_areTold cSp_areTold 2 (some .boolean) ∈ zT := zm 703 (by rfl) (by rfl)
theorem dSp_areTold_0 : decode cSp_areTold 0 = .ok (.aload_n 0, 1) := by decide +kernel
theorem dSp_areTold_1 : decode cSp_areTold 1 = .ok (.getfield 18, 3) := by decide +kernel
theorem dSp_areTold_4 : decode cSp_areTold 4 = .ok (.iload_n 1, 1) := by decide +kernel
theorem dSp_areTold_5 : decode cSp_areTold 5 = .ok (.iand, 1) := by decide +kernel
theorem dSp_areTold_6 : decode cSp_areTold 6 = .ok (.iload_n 1, 1) := by decide +kernel
theorem dSp_areTold_7 : decode cSp_areTold 7 = .ok (.if_icmp .ne 7, 3) := by decide +kernel
theorem dSp_areTold_10 : decode cSp_areTold 10 = .ok (.iconst 1, 1) := by decide +kernel
theorem dSp_areTold_11 : decode cSp_areTold 11 = .ok (.goto 4, 3) := by decide +kernel
theorem dSp_areTold_14 : decode cSp_areTold 14 = .ok (.iconst 0, 1) := by decide +kernel
theorem dSp_areTold_15 : decode cSp_areTold 15 = .ok (.ireturn, 1) := by decide +kernel
-- FootprintRules$Spans.areTold(I)Z
abbrev w_Sp_areTold (ad : Nat → Nat → Nat) (a_this : Nat) (a_lows : Nat) (a_highs : Nat)  (v_this_toldBits : Int32) (v_this_exactBits : Int32) : va_W := [(a_this, .inr (3, [.ref a_lows, .ref a_highs, .int v_this_toldBits, .int v_this_exactBits]))]
def P_Sp_areTold (p1 : Int32) (v_this_toldBits : Int32) (post : Int32 → Prop) : Prop := ((¬ (v_this_toldBits &&& p1) = p1 → post 0) ∧ ((v_this_toldBits &&& p1) = p1 → post 1))
set_option maxHeartbeats 4000000 in
set_option maxRecDepth 100000 in
theorem c_Sp_areTold (l : Launch) (dC : Nat → ClassId) (dI : Nat → Nat → Nat) (ad : Nat → Nat → Nat) (a_this : Nat) (a_lows : Nat) (a_highs : Nat)  (sz : Nat) (p1 : Int32) (v_this_toldBits : Int32) (v_this_exactBits : Int32) (post : Int32 → Prop) (h : P_Sp_areTold p1 v_this_toldBits post) : zMi l ySp_areTold wsSp_areTold { frames := 0, cells := 0, slots := 0, locals := 0 } (dC, dI) ad [.ref a_this, .int p1] (w_Sp_areTold ad a_this a_lows a_highs v_this_toldBits v_this_exactBits) [] sz (fun (r : Int32) (u : Unit) => post r) (fun (u : Unit) => (w_Sp_areTold ad a_this a_lows a_highs v_this_toldBits v_this_exactBits)) 0 0 := by
  refine Met.ofW (cc := cSp_areTold) (maxL := 2) (ret := (some .boolean)) (by decide +kernel) rfl ?_
  intro p e s m args below meth c s₁ B hml hv
  obtain ⟨rfl, hsz, hP, hK, hD0, hE⟩ := hv
  have hx := B.exec
  have hb := B.bytes
  have hr := B.returns
  have hts0 := atoms_spec (ws := wsSp_areTold) B.pre
  have hts := fun w h => hts0 w (List.mem_cons_of_mem _ h)
  have hown : s.vm.findClass RSp = some m.cls := findClass_of_methodNamed B.named
  have hlocks := B.notSynchronized
  subst hsz
  have hD := hD0.self (sz := s.heap.size)
  generalize hAe : va_A (w_Sp_areTold ad a_this a_lows a_highs v_this_toldBits v_this_exactBits) s.heap.size = A at hD hE ⊢
  have hA : ∀ q : Nat, s.heap.size ≤ q → A q := fun q h => by rw [← hAe]; exact Or.inr h
  have C0 := zC.mk hx hb hr hml hown hts hlocks hA
  have hS : va_S A s.heap s.heap [] := va_S.rf
  have hl := lv_entry ([.ref a_this, .int p1]) (n := 2) (Nat.le_of_ble_eq_true rfl)
  rw [lg_entry_eq]
  generalize (lg_sl ([.ref a_this, .int p1]) ++ List.replicate (2 - (lg_sl ([.ref a_this, .int p1])).length) Slot.unset).toArray = ls at hl ⊢
  have hl : lv_has ls 2 [(0, .ref a_this), (1, .int p1)] := hl
  unfold P_Sp_areTold at h
  refine lv_aload_n hx hb dSp_areTold_0 rfl (lv_at hl 0 rfl) ?_
  refine va_get (D := (dC, dI)) (ci := 3) (v := .int v_this_toldBits) (C := RSp) (T := TSp) (N := 4) hx hb hts inZ_Sp hown hK hP 0 rfl rfl 2 (by decide) (hts _ zw_200) (fun _ h9 => h9) rfl dSp_areTold_1 ?_
  refine lv_iload_n hx hb dSp_areTold_4 rfl (lv_at hl 1 rfl) ?_
  refine lv_iand hx hb dSp_areTold_5 ?_
  refine lv_iload_n hx hb dSp_areTold_6 rfl (lv_at hl 1 rfl) ?_
  refine lv_icmp_ne (tgt := 14) hx hb dSp_areTold_7 (by decide) ?_ ?_
  · intro c1
    replace h := h.1 c1
    refine lv_iconst (v := 0) hx hb dSp_areTold_14 (by decide) ?_
    exact W.zret (v := 0) hx hb hr rfl (fun t ht hW => ⟨⟨0, (()), rfl, h, by rw [ht]; exact hP, hD⟩, hS.F ht⟩) hS.2.2 dSp_areTold_15
  · intro c1
    replace h := h.2 c1
    refine lv_iconst (v := 1) hx hb dSp_areTold_10 (by decide) ?_
    refine lv_goto (tgt := 15) hx hb dSp_areTold_11 (by decide) ?_
    exact W.zret (v := 1) hx hb hr rfl (fun t ht hW => ⟨⟨1, (()), rfl, h, by rw [ht]; exact hP, hD⟩, hS.F ht⟩) hS.2.2 dSp_areTold_15
abbrev ySp_areExact : MethodName := ⟨"FootprintRules$Spans", "areExact", "(I)Z"⟩
abbrev cSp_areExact : ByteArray := prog_11_method_5_code
abbrev wsSp_areExact : List Cond := .code ySp_areExact cSp_areExact 2 (some .boolean) :: zT
set_option maxRecDepth 100000 in
theorem zc_Sp_areExact : Cond.code ySp_areExact cSp_areExact 2 (some .boolean) ∈ zT := zm 712 (by rfl) (by rfl)
theorem dSp_areExact_0 : decode cSp_areExact 0 = .ok (.aload_n 0, 1) := by decide +kernel
theorem dSp_areExact_1 : decode cSp_areExact 1 = .ok (.getfield 22, 3) := by decide +kernel
theorem dSp_areExact_4 : decode cSp_areExact 4 = .ok (.iload_n 1, 1) := by decide +kernel
theorem dSp_areExact_5 : decode cSp_areExact 5 = .ok (.iand, 1) := by decide +kernel
theorem dSp_areExact_6 : decode cSp_areExact 6 = .ok (.iload_n 1, 1) := by decide +kernel
theorem dSp_areExact_7 : decode cSp_areExact 7 = .ok (.if_icmp .ne 7, 3) := by decide +kernel
theorem dSp_areExact_10 : decode cSp_areExact 10 = .ok (.iconst 1, 1) := by decide +kernel
theorem dSp_areExact_11 : decode cSp_areExact 11 = .ok (.goto 4, 3) := by decide +kernel
theorem dSp_areExact_14 : decode cSp_areExact 14 = .ok (.iconst 0, 1) := by decide +kernel
theorem dSp_areExact_15 : decode cSp_areExact 15 = .ok (.ireturn, 1) := by decide +kernel
-- FootprintRules$Spans.areExact(I)Z
abbrev w_Sp_areExact (ad : Nat → Nat → Nat) (a_this : Nat) (a_lows : Nat) (a_highs : Nat)  (v_this_toldBits : Int32) (v_this_exactBits : Int32) : va_W := [(a_this, .inr (3, [.ref a_lows, .ref a_highs, .int v_this_toldBits, .int v_this_exactBits]))]
def P_Sp_areExact (p1 : Int32) (v_this_exactBits : Int32) (post : Int32 → Prop) : Prop := ((¬ (v_this_exactBits &&& p1) = p1 → post 0) ∧ ((v_this_exactBits &&& p1) = p1 → post 1))
set_option maxHeartbeats 4000000 in
set_option maxRecDepth 100000 in
theorem c_Sp_areExact (l : Launch) (dC : Nat → ClassId) (dI : Nat → Nat → Nat) (ad : Nat → Nat → Nat) (a_this : Nat) (a_lows : Nat) (a_highs : Nat)  (sz : Nat) (p1 : Int32) (v_this_toldBits : Int32) (v_this_exactBits : Int32) (post : Int32 → Prop) (h : P_Sp_areExact p1 v_this_exactBits post) : zMi l ySp_areExact wsSp_areExact { frames := 0, cells := 0, slots := 0, locals := 0 } (dC, dI) ad [.ref a_this, .int p1] (w_Sp_areExact ad a_this a_lows a_highs v_this_toldBits v_this_exactBits) [] sz (fun (r : Int32) (u : Unit) => post r) (fun (u : Unit) => (w_Sp_areExact ad a_this a_lows a_highs v_this_toldBits v_this_exactBits)) 0 0 := by
  refine Met.ofW (cc := cSp_areExact) (maxL := 2) (ret := (some .boolean)) (by decide +kernel) rfl ?_
  intro p e s m args below meth c s₁ B hml hv
  obtain ⟨rfl, hsz, hP, hK, hD0, hE⟩ := hv
  have hx := B.exec
  have hb := B.bytes
  have hr := B.returns
  have hts0 := atoms_spec (ws := wsSp_areExact) B.pre
  have hts := fun w h => hts0 w (List.mem_cons_of_mem _ h)
  have hown : s.vm.findClass RSp = some m.cls := findClass_of_methodNamed B.named
  have hlocks := B.notSynchronized
  subst hsz
  have hD := hD0.self (sz := s.heap.size)
  generalize hAe : va_A (w_Sp_areExact ad a_this a_lows a_highs v_this_toldBits v_this_exactBits) s.heap.size = A at hD hE ⊢
  have hA : ∀ q : Nat, s.heap.size ≤ q → A q := fun q h => by rw [← hAe]; exact Or.inr h
  have C0 := zC.mk hx hb hr hml hown hts hlocks hA
  have hS : va_S A s.heap s.heap [] := va_S.rf
  have hl := lv_entry ([.ref a_this, .int p1]) (n := 2) (Nat.le_of_ble_eq_true rfl)
  rw [lg_entry_eq]
  generalize (lg_sl ([.ref a_this, .int p1]) ++ List.replicate (2 - (lg_sl ([.ref a_this, .int p1])).length) Slot.unset).toArray = ls at hl ⊢
  have hl : lv_has ls 2 [(0, .ref a_this), (1, .int p1)] := hl
  unfold P_Sp_areExact at h
  refine lv_aload_n hx hb dSp_areExact_0 rfl (lv_at hl 0 rfl) ?_
  refine va_get (D := (dC, dI)) (ci := 3) (v := .int v_this_exactBits) (C := RSp) (T := TSp) (N := 4) hx hb hts inZ_Sp hown hK hP 0 rfl rfl 3 (by decide) (hts _ zw_201) (fun _ h9 => h9) rfl dSp_areExact_1 ?_
  refine lv_iload_n hx hb dSp_areExact_4 rfl (lv_at hl 1 rfl) ?_
  refine lv_iand hx hb dSp_areExact_5 ?_
  refine lv_iload_n hx hb dSp_areExact_6 rfl (lv_at hl 1 rfl) ?_
  refine lv_icmp_ne (tgt := 14) hx hb dSp_areExact_7 (by decide) ?_ ?_
  · intro c1
    replace h := h.1 c1
    refine lv_iconst (v := 0) hx hb dSp_areExact_14 (by decide) ?_
    exact W.zret (v := 0) hx hb hr rfl (fun t ht hW => ⟨⟨0, (()), rfl, h, by rw [ht]; exact hP, hD⟩, hS.F ht⟩) hS.2.2 dSp_areExact_15
  · intro c1
    replace h := h.2 c1
    refine lv_iconst (v := 1) hx hb dSp_areExact_10 (by decide) ?_
    refine lv_goto (tgt := 15) hx hb dSp_areExact_11 (by decide) ?_
    exact W.zret (v := 1) hx hb hr rfl (fun t ht hW => ⟨⟨1, (()), rfl, h, by rw [ht]; exact hP, hD⟩, hS.F ht⟩) hS.2.2 dSp_areExact_15
abbrev ySp_isTold : MethodName := ⟨"FootprintRules$Spans", "isTold", "(I)Z"⟩
abbrev cSp_isTold : ByteArray := prog_11_method_8_code
abbrev wsSp_isTold : List Cond := .code ySp_isTold cSp_isTold 2 (some .boolean) :: zT
set_option maxRecDepth 100000 in
theorem zc_Sp_isTold : Cond.code ySp_isTold cSp_isTold 2 (some .boolean) ∈ zT := zm 699 (by rfl) (by rfl)
theorem dSp_isTold_0 : decode cSp_isTold 0 = .ok (.iload_n 1, 1) := by decide +kernel
theorem dSp_isTold_1 : decode cSp_isTold 1 = .ok (.ifCond .lt 23, 3) := by decide +kernel
theorem dSp_isTold_4 : decode cSp_isTold 4 = .ok (.iload_n 1, 1) := by decide +kernel
theorem dSp_isTold_5 : decode cSp_isTold 5 = .ok (.bipush 12, 2) := by decide +kernel
theorem dSp_isTold_7 : decode cSp_isTold 7 = .ok (.if_icmp .ge 17, 3) := by decide +kernel
theorem dSp_isTold_10 : decode cSp_isTold 10 = .ok (.aload_n 0, 1) := by decide +kernel
theorem dSp_isTold_11 : decode cSp_isTold 11 = .ok (.iconst 1, 1) := by decide +kernel
theorem dSp_isTold_12 : decode cSp_isTold 12 = .ok (.iload_n 1, 1) := by decide +kernel
theorem dSp_isTold_13 : decode cSp_isTold 13 = .ok (.ishl, 1) := by decide +kernel
theorem dSp_isTold_14 : decode cSp_isTold 14 = .ok (.invokevirtual 29, 3) := by decide +kernel
theorem dSp_isTold_17 : decode cSp_isTold 17 = .ok (.ifCond .eq 7, 3) := by decide +kernel
theorem dSp_isTold_20 : decode cSp_isTold 20 = .ok (.iconst 1, 1) := by decide +kernel
theorem dSp_isTold_21 : decode cSp_isTold 21 = .ok (.goto 4, 3) := by decide +kernel
theorem dSp_isTold_24 : decode cSp_isTold 24 = .ok (.iconst 0, 1) := by decide +kernel
theorem dSp_isTold_25 : decode cSp_isTold 25 = .ok (.ireturn, 1) := by decide +kernel
-- FootprintRules$Spans.isTold(I)Z
abbrev w_Sp_isTold (ad : Nat → Nat → Nat) (a_this : Nat) (a_lows : Nat) (a_highs : Nat)  (v_this_toldBits : Int32) (v_this_exactBits : Int32) : va_W := [(a_this, .inr (3, [.ref a_lows, .ref a_highs, .int v_this_toldBits, .int v_this_exactBits]))]
def P_Sp_isTold (p1 : Int32) (v_this_toldBits : Int32) (post : Int32 → Prop) : Prop := ((p1 < 0 → post 0) ∧ (¬ p1 < 0 → ((12 ≤ p1 → post 0) ∧ (¬ 12 ≤ p1 → P_Sp_areTold (1 <<< (p1 &&& 31)) v_this_toldBits (fun (r3 : Int32) => ((r3 = 0 → post 0) ∧ (¬ r3 = 0 → post 1)))))))
set_option maxHeartbeats 4000000 in
set_option maxRecDepth 100000 in
theorem c_Sp_isTold (l : Launch) (dC : Nat → ClassId) (dI : Nat → Nat → Nat) (ad : Nat → Nat → Nat) (a_this : Nat) (a_lows : Nat) (a_highs : Nat)  (sz : Nat) (p1 : Int32) (v_this_toldBits : Int32) (v_this_exactBits : Int32) (post : Int32 → Prop) (h : P_Sp_isTold p1 v_this_toldBits post) : zMi l ySp_isTold wsSp_isTold { frames := 1, cells := 0, slots := 0, locals := 21 } (dC, dI) ad [.ref a_this, .int p1] (w_Sp_isTold ad a_this a_lows a_highs v_this_toldBits v_this_exactBits) [] sz (fun (r : Int32) (u : Unit) => post r) (fun (u : Unit) => (w_Sp_isTold ad a_this a_lows a_highs v_this_toldBits v_this_exactBits)) 0 0 := by
  refine Met.ofW (cc := cSp_isTold) (maxL := 2) (ret := (some .boolean)) (by decide +kernel) rfl ?_
  intro p e s m args below meth c s₁ B hml hv
  obtain ⟨rfl, hsz, hP, hK, hD0, hE⟩ := hv
  have hx := B.exec
  have hb := B.bytes
  have hr := B.returns
  have hts0 := atoms_spec (ws := wsSp_isTold) B.pre
  have hts := fun w h => hts0 w (List.mem_cons_of_mem _ h)
  have hown : s.vm.findClass RSp = some m.cls := findClass_of_methodNamed B.named
  have hlocks := B.notSynchronized
  subst hsz
  have hD := hD0.self (sz := s.heap.size)
  generalize hAe : va_A (w_Sp_isTold ad a_this a_lows a_highs v_this_toldBits v_this_exactBits) s.heap.size = A at hD hE ⊢
  have hA : ∀ q : Nat, s.heap.size ≤ q → A q := fun q h => by rw [← hAe]; exact Or.inr h
  have C0 := zC.mk hx hb hr hml hown hts hlocks hA
  have hS : va_S A s.heap s.heap [] := va_S.rf
  have hl := lv_entry ([.ref a_this, .int p1]) (n := 2) (Nat.le_of_ble_eq_true rfl)
  rw [lg_entry_eq]
  generalize (lg_sl ([.ref a_this, .int p1]) ++ List.replicate (2 - (lg_sl ([.ref a_this, .int p1])).length) Slot.unset).toArray = ls at hl ⊢
  have hl : lv_has ls 2 [(0, .ref a_this), (1, .int p1)] := hl
  unfold P_Sp_isTold at h
  refine lv_iload_n hx hb dSp_isTold_0 rfl (lv_at hl 1 rfl) ?_
  refine lv_if_lt (tgt := 24) hx hb dSp_isTold_1 (by decide) ?_ ?_
  · intro c1
    replace h := h.1 c1
    refine lv_iconst (v := 0) hx hb dSp_isTold_24 (by decide) ?_
    exact W.zret (v := 0) hx hb hr rfl (fun t ht hW => ⟨⟨0, (()), rfl, h, by rw [ht]; exact hP, hD⟩, hS.F ht⟩) hS.2.2 dSp_isTold_25
  · intro c1
    replace h := h.2 c1
    refine lv_iload_n hx hb dSp_isTold_4 rfl (lv_at hl 1 rfl) ?_
    refine lv_bipush (v := 12) hx hb dSp_isTold_5 (by decide) ?_
    refine lv_icmp_ge (tgt := 24) hx hb dSp_isTold_7 (by decide) ?_ ?_
    · intro c2
      replace h := h.1 c2
      refine lv_iconst (v := 0) hx hb dSp_isTold_24 (by decide) ?_
      exact W.zret (v := 0) hx hb hr rfl (fun t ht hW => ⟨⟨0, (()), rfl, h, by rw [ht]; exact hP, hD⟩, hS.F ht⟩) hS.2.2 dSp_isTold_25
    · intro c2
      replace h := h.2 c2
      refine lv_aload_n hx hb dSp_isTold_10 rfl (lv_at hl 0 rfl) ?_
      refine lv_iconst (v := 1) hx hb dSp_isTold_11 (by decide) ?_
      refine lv_iload_n hx hb dSp_isTold_12 rfl (lv_at hl 1 rfl) ?_
      refine lv_ishl hx hb dSp_isTold_13 ?_
      refine zcall_i hP hD hS hA [0] [] (va_runV (As := [.int (1 <<< (p1 &&& 31))]) (rest := []) ⟨hx, hb, hml, hown, hts⟩ (c_Sp_areTold l dC dI ad a_this a_lows a_highs _ (1 <<< (p1 &&& 31)) v_this_toldBits v_this_exactBits _ h) ⟨callB_of 1 hts (zgood zc_Sp_areTold) rfl rfl rfl (hts _ zw_100) (hts _ zw_700) (by decide +kernel) ⟨Nat.le_of_ble_eq_true rfl, Nat.le_of_ble_eq_true rfl⟩, (hts _ zw_702), (hts _ zw_26)⟩ (zpreV hE hK hP hD hS hA [0] [] (by rfl) (by rfl) (by decide) (ci := 3) (q0 := 0) rfl (by rfl)) rfl rfl hl.1 rfl (lv_room (Nat.le_of_ble_eq_true rfl)) dSp_isTold_14 ⟨Nat.le_of_ble_eq_true rfl, Nat.le_of_ble_eq_true rfl⟩) (by rfl) (by rfl) (by decide) (by decide) (fun r3 u H locs h hP hD hS => ?_)
      try dsimp only at h
      have hP := hP.sub (ws' := (w_Sp_isTold ad a_this a_lows a_highs v_this_toldBits v_this_exactBits)) [0] rfl
      have hD := hD.sub (ws' := (w_Sp_isTold ad a_this a_lows a_highs v_this_toldBits v_this_exactBits)) [0] (by decide) rfl
      refine lv_if_eq (tgt := 24) hx hb dSp_isTold_17 (by decide) ?_ ?_
      · intro c4
        replace h := h.1 c4
        refine lv_iconst (v := 0) hx hb dSp_isTold_24 (by decide) ?_
        exact W.zret (v := 0) hx hb hr rfl (fun t ht hW => ⟨⟨0, (()), rfl, h, by rw [ht]; exact hP, hD⟩, hS.F ht⟩) hS.2.2 dSp_isTold_25
      · intro c4
        replace h := h.2 c4
        refine lv_iconst (v := 1) hx hb dSp_isTold_20 (by decide) ?_
        refine lv_goto (tgt := 25) hx hb dSp_isTold_21 (by decide) ?_
        exact W.zret (v := 1) hx hb hr rfl (fun t ht hW => ⟨⟨1, (()), rfl, h, by rw [ht]; exact hP, hD⟩, hS.F ht⟩) hS.2.2 dSp_isTold_25
abbrev ySp_lowOf : MethodName := ⟨"FootprintRules$Spans", "lowOf", "(I)J"⟩
abbrev cSp_lowOf : ByteArray := prog_11_method_6_code
abbrev wsSp_lowOf : List Cond := .code ySp_lowOf cSp_lowOf 2 (some .long) :: zT
set_option maxRecDepth 100000 in
theorem zc_Sp_lowOf : Cond.code ySp_lowOf cSp_lowOf 2 (some .long) ∈ zT := zm 776 (by rfl) (by rfl)
theorem dSp_lowOf_0 : decode cSp_lowOf 0 = .ok (.aload_n 0, 1) := by decide +kernel
theorem dSp_lowOf_1 : decode cSp_lowOf 1 = .ok (.iload_n 1, 1) := by decide +kernel
theorem dSp_lowOf_2 : decode cSp_lowOf 2 = .ok (.invokevirtual 25, 3) := by decide +kernel
theorem dSp_lowOf_5 : decode cSp_lowOf 5 = .ok (.ifCond .eq 12, 3) := by decide +kernel
theorem dSp_lowOf_8 : decode cSp_lowOf 8 = .ok (.aload_n 0, 1) := by decide +kernel
theorem dSp_lowOf_9 : decode cSp_lowOf 9 = .ok (.getfield 9, 3) := by decide +kernel
theorem dSp_lowOf_12 : decode cSp_lowOf 12 = .ok (.iload_n 1, 1) := by decide +kernel
theorem dSp_lowOf_13 : decode cSp_lowOf 13 = .ok (.laload, 1) := by decide +kernel
theorem dSp_lowOf_14 : decode cSp_lowOf 14 = .ok (.goto 4, 3) := by decide +kernel
theorem dSp_lowOf_17 : decode cSp_lowOf 17 = .ok (.lconst 0, 1) := by decide +kernel
theorem dSp_lowOf_18 : decode cSp_lowOf 18 = .ok (.lreturn, 1) := by decide +kernel
-- FootprintRules$Spans.lowOf(I)J
abbrev w_Sp_lowOf (ad : Nat → Nat → Nat) (a_this : Nat) (a_lows : Nat) (a_highs : Nat) (k_lows : ClassId) (v_this_toldBits : Int32) (v_this_exactBits : Int32) (v_lows : Nat → Int64) : va_W := [(a_this, .inr (3, [.ref a_lows, .ref a_highs, .int v_this_toldBits, .int v_this_exactBits])), (a_lows, .inl (k_lows, 12, .inr (.inl v_lows)))]
def P_Sp_lowOf (p1 : Int32) (v_this_toldBits : Int32) (v_lows : Nat → Int64) (post : Int64 → Prop) : Prop := P_Sp_isTold p1 v_this_toldBits (fun (r1 : Int32) => ((r1 = 0 → post 0) ∧ (¬ r1 = 0 → vp_in p1 12 ∧ post (v_lows p1.toNatClampNeg))))
set_option maxHeartbeats 4000000 in
set_option maxRecDepth 100000 in
theorem c_Sp_lowOf (l : Launch) (dC : Nat → ClassId) (dI : Nat → Nat → Nat) (ad : Nat → Nat → Nat) (a_this : Nat) (a_lows : Nat) (a_highs : Nat) (k_lows : ClassId) (sz : Nat) (p1 : Int32) (v_this_toldBits : Int32) (v_this_exactBits : Int32) (v_lows : Nat → Int64) (post : Int64 → Prop) (h : P_Sp_lowOf p1 v_this_toldBits v_lows post) : zMl l ySp_lowOf wsSp_lowOf { frames := 2, cells := 0, slots := 0, locals := 42 } (dC, dI) ad [.ref a_this, .int p1] (w_Sp_lowOf ad a_this a_lows a_highs k_lows v_this_toldBits v_this_exactBits v_lows) [(k_lows, .long)] sz (fun (r : Int64) (u : Unit) => post r) (fun (u : Unit) => (w_Sp_lowOf ad a_this a_lows a_highs k_lows v_this_toldBits v_this_exactBits v_lows)) 0 0 := by
  refine Met.ofW (cc := cSp_lowOf) (maxL := 2) (ret := (some .long)) (by decide +kernel) rfl ?_
  intro p e s m args below meth c s₁ B hml hv
  obtain ⟨rfl, hsz, hP, hK, hD0, hE⟩ := hv
  have hx := B.exec
  have hb := B.bytes
  have hr := B.returns
  have hts0 := atoms_spec (ws := wsSp_lowOf) B.pre
  have hts := fun w h => hts0 w (List.mem_cons_of_mem _ h)
  have hown : s.vm.findClass RSp = some m.cls := findClass_of_methodNamed B.named
  have hlocks := B.notSynchronized
  subst hsz
  have hD := hD0.self (sz := s.heap.size)
  generalize hAe : va_A (w_Sp_lowOf ad a_this a_lows a_highs k_lows v_this_toldBits v_this_exactBits v_lows) s.heap.size = A at hD hE ⊢
  have hA : ∀ q : Nat, s.heap.size ≤ q → A q := fun q h => by rw [← hAe]; exact Or.inr h
  have C0 := zC.mk hx hb hr hml hown hts hlocks hA
  have hS : va_S A s.heap s.heap [] := va_S.rf
  have hl := lv_entry ([.ref a_this, .int p1]) (n := 2) (Nat.le_of_ble_eq_true rfl)
  rw [lg_entry_eq]
  generalize (lg_sl ([.ref a_this, .int p1]) ++ List.replicate (2 - (lg_sl ([.ref a_this, .int p1])).length) Slot.unset).toArray = ls at hl ⊢
  have hl : lv_has ls 2 [(0, .ref a_this), (1, .int p1)] := hl
  unfold P_Sp_lowOf at h
  refine lv_aload_n hx hb dSp_lowOf_0 rfl (lv_at hl 0 rfl) ?_
  refine lv_iload_n hx hb dSp_lowOf_1 rfl (lv_at hl 1 rfl) ?_
  refine zcall_i hP hD hS hA [0] [1] (va_runV (As := [.int p1]) (rest := []) ⟨hx, hb, hml, hown, hts⟩ (c_Sp_isTold l dC dI ad a_this a_lows a_highs _ p1 v_this_toldBits v_this_exactBits _ h) ⟨callB_of 1 hts (zgood zc_Sp_isTold) rfl rfl rfl (hts _ zw_100) (hts _ zw_696) (by decide +kernel) ⟨Nat.le_of_ble_eq_true rfl, Nat.le_of_ble_eq_true rfl⟩, (hts _ zw_698), (hts _ zw_25)⟩ (zpreV hE hK hP hD hS hA [0] [] (by rfl) (by rfl) (by decide) (ci := 3) (q0 := 0) rfl (by rfl)) rfl rfl hl.1 rfl (lv_room (Nat.le_of_ble_eq_true rfl)) dSp_lowOf_2 ⟨Nat.le_of_ble_eq_true rfl, Nat.le_of_ble_eq_true rfl⟩) (by rfl) (by rfl) (by decide) (by decide) (fun r1 u H locs h hP hD hS => ?_)
  try dsimp only at h
  have hP := hP.sub (ws' := (w_Sp_lowOf ad a_this a_lows a_highs k_lows v_this_toldBits v_this_exactBits v_lows)) [1, 0] rfl
  have hD := hD.sub (ws' := (w_Sp_lowOf ad a_this a_lows a_highs k_lows v_this_toldBits v_this_exactBits v_lows)) [1, 0] (by decide) rfl
  refine lv_if_eq (tgt := 17) hx hb dSp_lowOf_5 (by decide) ?_ ?_
  · intro c2
    replace h := h.1 c2
    refine lv_lconst (v := 0) hx hb dSp_lowOf_17 (by decide) ?_
    exact W.lret (v := 0) hx hb hr (fun t ht hW => ⟨⟨0, (()), rfl, h, by rw [ht]; exact hP, hD⟩, hS.F ht⟩) hS.2.2 dSp_lowOf_18
  · intro c2
    replace h := h.2 c2
    refine lv_aload_n hx hb dSp_lowOf_8 rfl (lv_at hl 0 rfl) ?_
    refine va_get (D := (dC, dI)) (ci := 3) (v := .ref a_lows) (C := RSp) (T := TSp) (N := 4) hx hb hts inZ_Sp hown hK hP 0 rfl rfl 0 (by decide) (hts _ zw_198) (fun _ h9 => h9) rfl dSp_lowOf_9 ?_
    refine lv_iload_n hx hb dSp_lowOf_12 rfl (lv_at hl 1 rfl) ?_
    obtain ⟨hn3, h⟩ := h
    refine va_lald hx hb hK hP 1 0 rfl rfl hn3 dSp_lowOf_13 ?_
    refine lv_goto (tgt := 18) hx hb dSp_lowOf_14 (by decide) ?_
    exact W.lret (v := (v_lows p1.toNatClampNeg)) hx hb hr (fun t ht hW => ⟨⟨(v_lows p1.toNatClampNeg), (()), rfl, h, by rw [ht]; exact hP, hD⟩, hS.F ht⟩) hS.2.2 dSp_lowOf_18
abbrev ySp_highOf : MethodName := ⟨"FootprintRules$Spans", "highOf", "(I)J"⟩
abbrev cSp_highOf : ByteArray := prog_11_method_7_code
abbrev wsSp_highOf : List Cond := .code ySp_highOf cSp_highOf 2 (some .long) :: zT
set_option maxRecDepth 100000 in
theorem zc_Sp_highOf : Cond.code ySp_highOf cSp_highOf 2 (some .long) ∈ zT := zm 695 (by rfl) (by rfl)
theorem dSp_highOf_0 : decode cSp_highOf 0 = .ok (.aload_n 0, 1) := by decide +kernel
theorem dSp_highOf_1 : decode cSp_highOf 1 = .ok (.iload_n 1, 1) := by decide +kernel
theorem dSp_highOf_2 : decode cSp_highOf 2 = .ok (.invokevirtual 25, 3) := by decide +kernel
theorem dSp_highOf_5 : decode cSp_highOf 5 = .ok (.ifCond .eq 12, 3) := by decide +kernel
theorem dSp_highOf_8 : decode cSp_highOf 8 = .ok (.aload_n 0, 1) := by decide +kernel
theorem dSp_highOf_9 : decode cSp_highOf 9 = .ok (.getfield 15, 3) := by decide +kernel
theorem dSp_highOf_12 : decode cSp_highOf 12 = .ok (.iload_n 1, 1) := by decide +kernel
theorem dSp_highOf_13 : decode cSp_highOf 13 = .ok (.laload, 1) := by decide +kernel
theorem dSp_highOf_14 : decode cSp_highOf 14 = .ok (.goto 4, 3) := by decide +kernel
theorem dSp_highOf_17 : decode cSp_highOf 17 = .ok (.lconst 0, 1) := by decide +kernel
theorem dSp_highOf_18 : decode cSp_highOf 18 = .ok (.lreturn, 1) := by decide +kernel
-- FootprintRules$Spans.highOf(I)J
abbrev w_Sp_highOf (ad : Nat → Nat → Nat) (a_this : Nat) (a_lows : Nat) (a_highs : Nat) (k_highs : ClassId) (v_this_toldBits : Int32) (v_this_exactBits : Int32) (v_highs : Nat → Int64) : va_W := [(a_this, .inr (3, [.ref a_lows, .ref a_highs, .int v_this_toldBits, .int v_this_exactBits])), (a_highs, .inl (k_highs, 12, .inr (.inl v_highs)))]
def P_Sp_highOf (p1 : Int32) (v_this_toldBits : Int32) (v_highs : Nat → Int64) (post : Int64 → Prop) : Prop := P_Sp_isTold p1 v_this_toldBits (fun (r1 : Int32) => ((r1 = 0 → post 0) ∧ (¬ r1 = 0 → vp_in p1 12 ∧ post (v_highs p1.toNatClampNeg))))
set_option maxHeartbeats 4000000 in
set_option maxRecDepth 100000 in
theorem c_Sp_highOf (l : Launch) (dC : Nat → ClassId) (dI : Nat → Nat → Nat) (ad : Nat → Nat → Nat) (a_this : Nat) (a_lows : Nat) (a_highs : Nat) (k_highs : ClassId) (sz : Nat) (p1 : Int32) (v_this_toldBits : Int32) (v_this_exactBits : Int32) (v_highs : Nat → Int64) (post : Int64 → Prop) (h : P_Sp_highOf p1 v_this_toldBits v_highs post) : zMl l ySp_highOf wsSp_highOf { frames := 2, cells := 0, slots := 0, locals := 42 } (dC, dI) ad [.ref a_this, .int p1] (w_Sp_highOf ad a_this a_lows a_highs k_highs v_this_toldBits v_this_exactBits v_highs) [(k_highs, .long)] sz (fun (r : Int64) (u : Unit) => post r) (fun (u : Unit) => (w_Sp_highOf ad a_this a_lows a_highs k_highs v_this_toldBits v_this_exactBits v_highs)) 0 0 := by
  refine Met.ofW (cc := cSp_highOf) (maxL := 2) (ret := (some .long)) (by decide +kernel) rfl ?_
  intro p e s m args below meth c s₁ B hml hv
  obtain ⟨rfl, hsz, hP, hK, hD0, hE⟩ := hv
  have hx := B.exec
  have hb := B.bytes
  have hr := B.returns
  have hts0 := atoms_spec (ws := wsSp_highOf) B.pre
  have hts := fun w h => hts0 w (List.mem_cons_of_mem _ h)
  have hown : s.vm.findClass RSp = some m.cls := findClass_of_methodNamed B.named
  have hlocks := B.notSynchronized
  subst hsz
  have hD := hD0.self (sz := s.heap.size)
  generalize hAe : va_A (w_Sp_highOf ad a_this a_lows a_highs k_highs v_this_toldBits v_this_exactBits v_highs) s.heap.size = A at hD hE ⊢
  have hA : ∀ q : Nat, s.heap.size ≤ q → A q := fun q h => by rw [← hAe]; exact Or.inr h
  have C0 := zC.mk hx hb hr hml hown hts hlocks hA
  have hS : va_S A s.heap s.heap [] := va_S.rf
  have hl := lv_entry ([.ref a_this, .int p1]) (n := 2) (Nat.le_of_ble_eq_true rfl)
  rw [lg_entry_eq]
  generalize (lg_sl ([.ref a_this, .int p1]) ++ List.replicate (2 - (lg_sl ([.ref a_this, .int p1])).length) Slot.unset).toArray = ls at hl ⊢
  have hl : lv_has ls 2 [(0, .ref a_this), (1, .int p1)] := hl
  unfold P_Sp_highOf at h
  refine lv_aload_n hx hb dSp_highOf_0 rfl (lv_at hl 0 rfl) ?_
  refine lv_iload_n hx hb dSp_highOf_1 rfl (lv_at hl 1 rfl) ?_
  refine zcall_i hP hD hS hA [0] [1] (va_runV (As := [.int p1]) (rest := []) ⟨hx, hb, hml, hown, hts⟩ (c_Sp_isTold l dC dI ad a_this a_lows a_highs _ p1 v_this_toldBits v_this_exactBits _ h) ⟨callB_of 1 hts (zgood zc_Sp_isTold) rfl rfl rfl (hts _ zw_100) (hts _ zw_696) (by decide +kernel) ⟨Nat.le_of_ble_eq_true rfl, Nat.le_of_ble_eq_true rfl⟩, (hts _ zw_698), (hts _ zw_25)⟩ (zpreV hE hK hP hD hS hA [0] [] (by rfl) (by rfl) (by decide) (ci := 3) (q0 := 0) rfl (by rfl)) rfl rfl hl.1 rfl (lv_room (Nat.le_of_ble_eq_true rfl)) dSp_highOf_2 ⟨Nat.le_of_ble_eq_true rfl, Nat.le_of_ble_eq_true rfl⟩) (by rfl) (by rfl) (by decide) (by decide) (fun r1 u H locs h hP hD hS => ?_)
  try dsimp only at h
  have hP := hP.sub (ws' := (w_Sp_highOf ad a_this a_lows a_highs k_highs v_this_toldBits v_this_exactBits v_highs)) [1, 0] rfl
  have hD := hD.sub (ws' := (w_Sp_highOf ad a_this a_lows a_highs k_highs v_this_toldBits v_this_exactBits v_highs)) [1, 0] (by decide) rfl
  refine lv_if_eq (tgt := 17) hx hb dSp_highOf_5 (by decide) ?_ ?_
  · intro c2
    replace h := h.1 c2
    refine lv_lconst (v := 0) hx hb dSp_highOf_17 (by decide) ?_
    exact W.lret (v := 0) hx hb hr (fun t ht hW => ⟨⟨0, (()), rfl, h, by rw [ht]; exact hP, hD⟩, hS.F ht⟩) hS.2.2 dSp_highOf_18
  · intro c2
    replace h := h.2 c2
    refine lv_aload_n hx hb dSp_highOf_8 rfl (lv_at hl 0 rfl) ?_
    refine va_get (D := (dC, dI)) (ci := 3) (v := .ref a_highs) (C := RSp) (T := TSp) (N := 4) hx hb hts inZ_Sp hown hK hP 0 rfl rfl 1 (by decide) (hts _ zw_199) (fun _ h9 => h9) rfl dSp_highOf_9 ?_
    refine lv_iload_n hx hb dSp_highOf_12 rfl (lv_at hl 1 rfl) ?_
    obtain ⟨hn3, h⟩ := h
    refine va_lald hx hb hK hP 1 0 rfl rfl hn3 dSp_highOf_13 ?_
    refine lv_goto (tgt := 18) hx hb dSp_highOf_14 (by decide) ?_
    exact W.lret (v := (v_highs p1.toNatClampNeg)) hx hb hr (fun t ht hW => ⟨⟨(v_highs p1.toNatClampNeg), (()), rfl, h, by rw [ht]; exact hP, hD⟩, hS.F ht⟩) hS.2.2 dSp_highOf_18
abbrev yFa_addLetter : MethodName := ⟨"FootprintRules$Family", "addLetter", "(C)V"⟩
abbrev cFa_addLetter : ByteArray := prog_3_method_3_code
abbrev wsFa_addLetter : List Cond := .code yFa_addLetter cFa_addLetter 2 none :: zT
set_option maxRecDepth 100000 in
theorem zc_Fa_addLetter : Cond.code yFa_addLetter cFa_addLetter 2 none ∈ zT := zm 591 (by rfl) (by rfl)
theorem dFa_addLetter_0 : decode cFa_addLetter 0 = .ok (.aload_n 0, 1) := by decide +kernel
theorem dFa_addLetter_1 : decode cFa_addLetter 1 = .ok (.getfield 38, 3) := by decide +kernel
theorem dFa_addLetter_4 : decode cFa_addLetter 4 = .ok (.ifCond .lt 31, 3) := by decide +kernel
theorem dFa_addLetter_7 : decode cFa_addLetter 7 = .ok (.aload_n 0, 1) := by decide +kernel
theorem dFa_addLetter_8 : decode cFa_addLetter 8 = .ok (.getfield 38, 3) := by decide +kernel
theorem dFa_addLetter_11 : decode cFa_addLetter 11 = .ok (.iconst 4, 1) := by decide +kernel
theorem dFa_addLetter_12 : decode cFa_addLetter 12 = .ok (.if_icmp .ge 23, 3) := by decide +kernel
theorem dFa_addLetter_15 : decode cFa_addLetter 15 = .ok (.aload_n 0, 1) := by decide +kernel
theorem dFa_addLetter_16 : decode cFa_addLetter 16 = .ok (.getfield 15, 3) := by decide +kernel
theorem dFa_addLetter_19 : decode cFa_addLetter 19 = .ok (.aload_n 0, 1) := by decide +kernel
theorem dFa_addLetter_20 : decode cFa_addLetter 20 = .ok (.getfield 38, 3) := by decide +kernel
theorem dFa_addLetter_23 : decode cFa_addLetter 23 = .ok (.iload_n 1, 1) := by decide +kernel
theorem dFa_addLetter_24 : decode cFa_addLetter 24 = .ok (.castore, 1) := by decide +kernel
theorem dFa_addLetter_25 : decode cFa_addLetter 25 = .ok (.aload_n 0, 1) := by decide +kernel
theorem dFa_addLetter_26 : decode cFa_addLetter 26 = .ok (.dup, 1) := by decide +kernel
theorem dFa_addLetter_27 : decode cFa_addLetter 27 = .ok (.getfield 38, 3) := by decide +kernel
theorem dFa_addLetter_30 : decode cFa_addLetter 30 = .ok (.iconst 1, 1) := by decide +kernel
theorem dFa_addLetter_31 : decode cFa_addLetter 31 = .ok (.iadd, 1) := by decide +kernel
theorem dFa_addLetter_32 : decode cFa_addLetter 32 = .ok (.putfield 38, 3) := by decide +kernel
theorem dFa_addLetter_35 : decode cFa_addLetter 35 = .ok (.return_, 1) := by decide +kernel
-- FootprintRules$Family.addLetter(C)V
abbrev w_Fa_addLetter (ad : Nat → Nat → Nat) (a_this : Nat) (a_values : Nat) (a_letters : Nat) (k_letters : ClassId) (v_this_letterCount : Int32) (v_this_kind : Nat) (v_letters : Nat → Int32) : va_W := [(a_this, .inr (2, [.ref a_values, .ref a_letters, .int v_this_letterCount, .ref (ad 0 v_this_kind)])), (a_letters, .inl (k_letters, 4, .inl v_letters))]
def P_Fa_addLetter (p1 : Int32) (v_this_letterCount : Int32) (v_letters : Nat → Int32) (post : Int32 → (Nat → Int32) → Prop) : Prop := ((v_this_letterCount < 0 → post v_this_letterCount v_letters) ∧ (¬ v_this_letterCount < 0 → ((4 ≤ v_this_letterCount → post v_this_letterCount v_letters) ∧ (¬ 4 ≤ v_this_letterCount → vp_in v_this_letterCount 4 ∧ ∀ x4 : Int32, x4 = v_this_letterCount + 1 → post x4 (upd v_letters v_this_letterCount.toNatClampNeg (vp_nar .char p1))))))
set_option maxHeartbeats 4000000 in
set_option maxRecDepth 100000 in
theorem c_Fa_addLetter (l : Launch) (dC : Nat → ClassId) (dI : Nat → Nat → Nat) (ad : Nat → Nat → Nat) (a_this : Nat) (a_values : Nat) (a_letters : Nat) (k_letters : ClassId) (sz : Nat) (p1 : Int32) (v_this_letterCount : Int32) (v_this_kind : Nat) (v_letters : Nat → Int32) (post : Int32 → (Nat → Int32) → Prop) (h : P_Fa_addLetter p1 v_this_letterCount v_letters post) : zMv l yFa_addLetter wsFa_addLetter { frames := 0, cells := 0, slots := 0, locals := 0 } (dC, dI) ad [.ref a_this, .int p1] (w_Fa_addLetter ad a_this a_values a_letters k_letters v_this_letterCount v_this_kind v_letters) [(k_letters, .char)] sz (fun (u : Int32 × (Nat → Int32)) => post u.1 u.2) (fun (u : Int32 × (Nat → Int32)) => (w_Fa_addLetter ad a_this a_values a_letters k_letters u.1 v_this_kind u.2)) 0 0 := by
  refine Met.ofW (cc := cFa_addLetter) (maxL := 2) (ret := none) (by decide +kernel) rfl ?_
  intro p e s m args below meth c s₁ B hml hv
  obtain ⟨rfl, hsz, hP, hK, hD0, hE⟩ := hv
  have hx := B.exec
  have hb := B.bytes
  have hr := B.returns
  have hts0 := atoms_spec (ws := wsFa_addLetter) B.pre
  have hts := fun w h => hts0 w (List.mem_cons_of_mem _ h)
  have hown : s.vm.findClass RFa = some m.cls := findClass_of_methodNamed B.named
  have hlocks := B.notSynchronized
  subst hsz
  have hD := hD0.self (sz := s.heap.size)
  generalize hAe : va_A (w_Fa_addLetter ad a_this a_values a_letters k_letters v_this_letterCount v_this_kind v_letters) s.heap.size = A at hD hE ⊢
  have hA : ∀ q : Nat, s.heap.size ≤ q → A q := fun q h => by rw [← hAe]; exact Or.inr h
  have C0 := zC.mk hx hb hr hml hown hts hlocks hA
  have hS : va_S A s.heap s.heap [] := va_S.rf
  have hl := lv_entry ([.ref a_this, .int p1]) (n := 2) (Nat.le_of_ble_eq_true rfl)
  rw [lg_entry_eq]
  generalize (lg_sl ([.ref a_this, .int p1]) ++ List.replicate (2 - (lg_sl ([.ref a_this, .int p1])).length) Slot.unset).toArray = ls at hl ⊢
  have hl : lv_has ls 2 [(0, .ref a_this), (1, .int p1)] := hl
  unfold P_Fa_addLetter at h
  refine lv_aload_n hx hb dFa_addLetter_0 rfl (lv_at hl 0 rfl) ?_
  refine va_get (D := (dC, dI)) (ci := 2) (v := .int v_this_letterCount) (C := RFa) (T := TFa) (N := 4) hx hb hts inZ_Fa hown hK hP 0 rfl rfl 2 (by decide) (hts _ zw_228) (fun _ h9 => h9) rfl dFa_addLetter_1 ?_
  refine lv_if_lt (tgt := 35) hx hb dFa_addLetter_4 (by decide) ?_ ?_
  · intro c1
    replace h := h.1 c1
    exact W.vret hx hb hr (fun t ht hW => ⟨⟨(v_this_letterCount, v_letters), rfl, h, by rw [ht]; exact hP, hD⟩, hS.F ht⟩) hS.2.2 dFa_addLetter_35
  · intro c1
    replace h := h.2 c1
    refine lv_aload_n hx hb dFa_addLetter_7 rfl (lv_at hl 0 rfl) ?_
    refine va_get (D := (dC, dI)) (ci := 2) (v := .int v_this_letterCount) (C := RFa) (T := TFa) (N := 4) hx hb hts inZ_Fa hown hK hP 0 rfl rfl 2 (by decide) (hts _ zw_228) (fun _ h9 => h9) rfl dFa_addLetter_8 ?_
    refine lv_iconst (v := 4) hx hb dFa_addLetter_11 (by decide) ?_
    refine lv_icmp_ge (tgt := 35) hx hb dFa_addLetter_12 (by decide) ?_ ?_
    · intro c2
      replace h := h.1 c2
      exact W.vret hx hb hr (fun t ht hW => ⟨⟨(v_this_letterCount, v_letters), rfl, h, by rw [ht]; exact hP, hD⟩, hS.F ht⟩) hS.2.2 dFa_addLetter_35
    · intro c2
      replace h := h.2 c2
      refine lv_aload_n hx hb dFa_addLetter_15 rfl (lv_at hl 0 rfl) ?_
      refine va_get (D := (dC, dI)) (ci := 2) (v := .ref a_letters) (C := RFa) (T := TFa) (N := 4) hx hb hts inZ_Fa hown hK hP 0 rfl rfl 1 (by decide) (hts _ zw_226) (fun _ h9 => h9) rfl dFa_addLetter_16 ?_
      refine lv_aload_n hx hb dFa_addLetter_19 rfl (lv_at hl 0 rfl) ?_
      refine va_get (D := (dC, dI)) (ci := 2) (v := .int v_this_letterCount) (C := RFa) (T := TFa) (N := 4) hx hb hts inZ_Fa hown hK hP 0 rfl rfl 2 (by decide) (hts _ zw_228) (fun _ h9 => h9) rfl dFa_addLetter_20 ?_
      refine lv_iload_n hx hb dFa_addLetter_23 rfl (lv_at hl 1 rfl) ?_
      obtain ⟨hn3, h⟩ := h
      refine va_cast hx hb hK hP hD hS 1 0 rfl rfl hn3 dFa_addLetter_24 (fun H locs hP hD hS => ?_)
      have hP : va_P (dC, dI) vwCl (w_Fa_addLetter ad a_this a_values a_letters k_letters v_this_letterCount v_this_kind (upd v_letters v_this_letterCount.toNatClampNeg (vp_nar .char p1))) H := hP
      have hD : va_D A (w_Fa_addLetter ad a_this a_values a_letters k_letters v_this_letterCount v_this_kind (upd v_letters v_this_letterCount.toNatClampNeg (vp_nar .char p1))) := hD
      refine lv_aload_n hx hb dFa_addLetter_25 rfl (lv_at hl 0 rfl) ?_
      refine lv_dup hx hb dFa_addLetter_26 rfl ?_
      refine va_get (D := (dC, dI)) (ci := 2) (v := .int v_this_letterCount) (C := RFa) (T := TFa) (N := 4) hx hb hts inZ_Fa hown hK hP 0 rfl rfl 2 (by decide) (hts _ zw_228) (fun _ h9 => h9) rfl dFa_addLetter_27 ?_
      refine lv_iconst (v := 1) hx hb dFa_addLetter_30 (by decide) ?_
      refine lv_iadd hx hb dFa_addLetter_31 ?_
      refine lv_topi (fun x4 ex4 => ?_)
      replace h := h x4 ex4
      refine va_put (D := (dC, dI)) (ci := 2) (v := .int x4) (ty := .int) (C := RFa) (T := TFa) (N := 4) hx hb hts inZ_Fa tyFa tyFa_ok nmFa hown hK hP hD hS 0 rfl rfl 2 (by decide) (hts _ zw_228) (fun _ h9 => h9) rfl (by decide +kernel) rfl rfl (Nat.le_of_ble_eq_true rfl) dFa_addLetter_32 (fun H locs hP hD hS => ?_)
      have hP : va_P (dC, dI) vwCl (w_Fa_addLetter ad a_this a_values a_letters k_letters x4 v_this_kind (upd v_letters v_this_letterCount.toNatClampNeg (vp_nar .char p1))) H := hP
      have hD : va_D A (w_Fa_addLetter ad a_this a_values a_letters k_letters x4 v_this_kind (upd v_letters v_this_letterCount.toNatClampNeg (vp_nar .char p1))) := hD
      exact W.vret hx hb hr (fun t ht hW => ⟨⟨(x4, (upd v_letters v_this_letterCount.toNatClampNeg (vp_nar .char p1))), rfl, h, by rw [ht]; exact hP, hD⟩, hS.F ht⟩) hS.2.2 dFa_addLetter_35
abbrev yFa_put : MethodName := ⟨"FootprintRules$Family", "put", "(LFootprintRules$Key;II)V"⟩
abbrev cFa_put : ByteArray := prog_3_method_4_code
abbrev wsFa_put : List Cond := .code yFa_put cFa_put 5 none :: zT
set_option maxRecDepth 100000 in
theorem zc_Fa_put : Cond.code yFa_put cFa_put 5 none ∈ zT := zm 585 (by rfl) (by rfl)
theorem dFa_put_0 : decode cFa_put 0 = .ok (.aload_n 1, 1) := by decide +kernel
theorem dFa_put_1 : decode cFa_put 1 = .ok (.getfield 60, 3) := by decide +kernel
theorem dFa_put_4 : decode cFa_put 4 = .ok (.iload_n 2, 1) := by decide +kernel
theorem dFa_put_5 : decode cFa_put 5 = .ok (.iadd, 1) := by decide +kernel
theorem dFa_put_6 : decode cFa_put 6 = .ok (.istore 4, 2) := by decide +kernel
theorem dFa_put_8 : decode cFa_put 8 = .ok (.iload 4, 2) := by decide +kernel
theorem dFa_put_10 : decode cFa_put 10 = .ok (.ifCond .lt 21, 3) := by decide +kernel
theorem dFa_put_13 : decode cFa_put 13 = .ok (.iload 4, 2) := by decide +kernel
theorem dFa_put_15 : decode cFa_put 15 = .ok (.aload_n 0, 1) := by decide +kernel
theorem dFa_put_16 : decode cFa_put 16 = .ok (.getfield 9, 3) := by decide +kernel
theorem dFa_put_19 : decode cFa_put 19 = .ok (.arraylength, 1) := by decide +kernel
theorem dFa_put_20 : decode cFa_put 20 = .ok (.if_icmp .ge 11, 3) := by decide +kernel
theorem dFa_put_23 : decode cFa_put 23 = .ok (.aload_n 0, 1) := by decide +kernel
theorem dFa_put_24 : decode cFa_put 24 = .ok (.getfield 9, 3) := by decide +kernel
theorem dFa_put_27 : decode cFa_put 27 = .ok (.iload 4, 2) := by decide +kernel
theorem dFa_put_29 : decode cFa_put 29 = .ok (.iload_n 3, 1) := by decide +kernel
theorem dFa_put_30 : decode cFa_put 30 = .ok (.iastore, 1) := by decide +kernel
theorem dFa_put_31 : decode cFa_put 31 = .ok (.return_, 1) := by decide +kernel
-- FootprintRules$Family.put(LFootprintRules$Key;II)V
abbrev w_Fa_put (ad : Nat → Nat → Nat) (a_this : Nat) (a_values : Nat) (a_letters : Nat) (k_values : ClassId) (v_this_letterCount : Int32) (v_this_kind : Nat) (v_values : Nat → Int32) : va_W := [(a_this, .inr (2, [.ref a_values, .ref a_letters, .int v_this_letterCount, .ref (ad 0 v_this_kind)])), (a_values, .inl (k_values, 18, .inl v_values))]
def P_Fa_put (p1 : Nat) (p2 : Int32) (p3 : Int32) (v_values : Nat → Int32) (post : (Nat → Int32) → Prop) : Prop := p1 < 11 ∧ ∀ x2 : Int32, x2 = (zKey_first.getD p1 0) + p2 → ((x2 < 0 → post v_values) ∧ (¬ x2 < 0 → ((18 ≤ x2 → post v_values) ∧ (¬ 18 ≤ x2 → vp_in x2 18 ∧ post (upd v_values x2.toNatClampNeg p3)))))
set_option maxHeartbeats 4000000 in
set_option maxRecDepth 100000 in
theorem c_Fa_put (l : Launch) (dC : Nat → ClassId) (dI : Nat → Nat → Nat) (ad : Nat → Nat → Nat) (a_this : Nat) (a_values : Nat) (a_letters : Nat) (k_values : ClassId) (sz : Nat) (p1 : Nat) (p2 : Int32) (p3 : Int32) (v_this_letterCount : Int32) (v_this_kind : Nat) (v_values : Nat → Int32) (post : (Nat → Int32) → Prop) (h : P_Fa_put p1 p2 p3 v_values post) : zMv l yFa_put wsFa_put { frames := 0, cells := 0, slots := 0, locals := 0 } (dC, dI) ad [.ref a_this, .ref (ad 1 p1), .int p2, .int p3] (w_Fa_put ad a_this a_values a_letters k_values v_this_letterCount v_this_kind v_values) [(k_values, .int)] sz (fun (u : (Nat → Int32)) => post u) (fun (u : (Nat → Int32)) => (w_Fa_put ad a_this a_values a_letters k_values v_this_letterCount v_this_kind u)) 0 0 := by
  refine Met.ofW (cc := cFa_put) (maxL := 5) (ret := none) (by decide +kernel) rfl ?_
  intro p e s m args below meth c s₁ B hml hv
  obtain ⟨rfl, hsz, hP, hK, hD0, hE⟩ := hv
  have hx := B.exec
  have hb := B.bytes
  have hr := B.returns
  have hts0 := atoms_spec (ws := wsFa_put) B.pre
  have hts := fun w h => hts0 w (List.mem_cons_of_mem _ h)
  have hown : s.vm.findClass RFa = some m.cls := findClass_of_methodNamed B.named
  have hlocks := B.notSynchronized
  subst hsz
  have hD := hD0.self (sz := s.heap.size)
  generalize hAe : va_A (w_Fa_put ad a_this a_values a_letters k_values v_this_letterCount v_this_kind v_values) s.heap.size = A at hD hE ⊢
  have hA : ∀ q : Nat, s.heap.size ≤ q → A q := fun q h => by rw [← hAe]; exact Or.inr h
  have C0 := zC.mk hx hb hr hml hown hts hlocks hA
  have hS : va_S A s.heap s.heap [] := va_S.rf
  have hl := lv_entry ([.ref a_this, .ref (ad 1 p1), .int p2, .int p3]) (n := 5) (Nat.le_of_ble_eq_true rfl)
  rw [lg_entry_eq]
  generalize (lg_sl ([.ref a_this, .ref (ad 1 p1), .int p2, .int p3]) ++ List.replicate (5 - (lg_sl ([.ref a_this, .ref (ad 1 p1), .int p2, .int p3])).length) Slot.unset).toArray = ls at hl ⊢
  have hl : lv_has ls 5 [(0, .ref a_this), (1, .ref (ad 1 p1)), (2, .int p2), (3, .int p3)] := hl
  unfold P_Fa_put at h
  refine lv_aload_n hx hb dFa_put_0 rfl (lv_at hl 1 rfl) ?_
  obtain ⟨hn1, h⟩ := h
  refine zz_getON (o := "FootprintRules$Key") (n := "first") (d := "I") (v := .int (zKey_first.getD p1 0)) hx hb (hE.fKey_first p1 hn1) hS hown ((hE.nw _ zn_1333).use rfl) (fun _ h9 => h9) dFa_put_1 ?_
  refine lv_iload_n hx hb dFa_put_4 rfl (lv_at hl 2 rfl) ?_
  refine lv_iadd hx hb dFa_put_5 ?_
  refine lv_topi (fun x2 ex2 => ?_)
  replace h := h x2 ex2
  refine lv_istore (lv' := [(4, .int x2), (0, .ref a_this), (1, .ref (ad 1 p1)), (2, .int p2), (3, .int p3)]) hx hb dFa_put_6 hl (by decide) rfl (fun ls hl => ?_)
  refine lv_iload hx hb dFa_put_8 (lv_at hl 0 rfl) ?_
  refine lv_if_lt (tgt := 31) hx hb dFa_put_10 (by decide) ?_ ?_
  · intro c3
    replace h := h.1 c3
    exact W.vret hx hb hr (fun t ht hW => ⟨⟨v_values, rfl, h, by rw [ht]; exact hP, hD⟩, hS.F ht⟩) hS.2.2 dFa_put_31
  · intro c3
    replace h := h.2 c3
    refine lv_iload hx hb dFa_put_13 (lv_at hl 0 rfl) ?_
    refine lv_aload_n hx hb dFa_put_15 rfl (lv_at hl 1 rfl) ?_
    refine va_get (D := (dC, dI)) (ci := 2) (v := .ref a_values) (C := RFa) (T := TFa) (N := 4) hx hb hts inZ_Fa hown hK hP 0 rfl rfl 0 (by decide) (hts _ zw_225) (fun _ h9 => h9) rfl dFa_put_16 ?_
    refine va_alen (v := 18) hx hb hK hP 1 0 rfl rfl (show Int32.ofNat 18 = 18 by decide) dFa_put_19 ?_
    refine lv_icmp_ge (tgt := 31) hx hb dFa_put_20 (by decide) ?_ ?_
    · intro c4
      replace h := h.1 c4
      exact W.vret hx hb hr (fun t ht hW => ⟨⟨v_values, rfl, h, by rw [ht]; exact hP, hD⟩, hS.F ht⟩) hS.2.2 dFa_put_31
    · intro c4
      replace h := h.2 c4
      refine lv_aload_n hx hb dFa_put_23 rfl (lv_at hl 1 rfl) ?_
      refine va_get (D := (dC, dI)) (ci := 2) (v := .ref a_values) (C := RFa) (T := TFa) (N := 4) hx hb hts inZ_Fa hown hK hP 0 rfl rfl 0 (by decide) (hts _ zw_225) (fun _ h9 => h9) rfl dFa_put_24 ?_
      refine lv_iload hx hb dFa_put_27 (lv_at hl 0 rfl) ?_
      refine lv_iload_n hx hb dFa_put_29 rfl (lv_at hl 4 rfl) ?_
      obtain ⟨hn5, h⟩ := h
      refine va_iast hx hb hK hP hD hS 1 0 rfl rfl hn5 dFa_put_30 (fun H locs hP hD hS => ?_)
      have hP : va_P (dC, dI) vwCl (w_Fa_put ad a_this a_values a_letters k_values v_this_letterCount v_this_kind (upd v_values x2.toNatClampNeg p3)) H := hP
      have hD : va_D A (w_Fa_put ad a_this a_values a_letters k_values v_this_letterCount v_this_kind (upd v_values x2.toNatClampNeg p3)) := hD
      exact W.vret hx hb hr (fun t ht hW => ⟨⟨(upd v_values x2.toNatClampNeg p3), rfl, h, by rw [ht]; exact hP, hD⟩, hS.F ht⟩) hS.2.2 dFa_put_31
abbrev yFa_ofDensity : MethodName := ⟨"FootprintRules$Family", "ofDensity", "(LFootprintRules$Key;I)J"⟩
abbrev cFa_ofDensity : ByteArray := prog_3_method_6_code
abbrev wsFa_ofDensity : List Cond := .code yFa_ofDensity cFa_ofDensity 4 (some .long) :: zT
set_option maxRecDepth 100000 in
theorem zc_Fa_ofDensity : Cond.code yFa_ofDensity cFa_ofDensity 4 (some .long) ∈ zT := zm 721 (by rfl) (by rfl)
theorem dFa_ofDensity_0 : decode cFa_ofDensity 0 = .ok (.aload_n 1, 1) := by decide +kernel
theorem dFa_ofDensity_1 : decode cFa_ofDensity 1 = .ok (.getfield 60, 3) := by decide +kernel
theorem dFa_ofDensity_4 : decode cFa_ofDensity 4 = .ok (.iload_n 2, 1) := by decide +kernel
theorem dFa_ofDensity_5 : decode cFa_ofDensity 5 = .ok (.iadd, 1) := by decide +kernel
theorem dFa_ofDensity_6 : decode cFa_ofDensity 6 = .ok (.istore_n 3, 1) := by decide +kernel
theorem dFa_ofDensity_7 : decode cFa_ofDensity 7 = .ok (.iload_n 3, 1) := by decide +kernel
theorem dFa_ofDensity_8 : decode cFa_ofDensity 8 = .ok (.ifCond .lt 22, 3) := by decide +kernel
theorem dFa_ofDensity_11 : decode cFa_ofDensity 11 = .ok (.iload_n 3, 1) := by decide +kernel
theorem dFa_ofDensity_12 : decode cFa_ofDensity 12 = .ok (.aload_n 0, 1) := by decide +kernel
theorem dFa_ofDensity_13 : decode cFa_ofDensity 13 = .ok (.getfield 9, 3) := by decide +kernel
theorem dFa_ofDensity_16 : decode cFa_ofDensity 16 = .ok (.arraylength, 1) := by decide +kernel
theorem dFa_ofDensity_17 : decode cFa_ofDensity 17 = .ok (.if_icmp .ge 13, 3) := by decide +kernel
theorem dFa_ofDensity_20 : decode cFa_ofDensity 20 = .ok (.aload_n 0, 1) := by decide +kernel
theorem dFa_ofDensity_21 : decode cFa_ofDensity 21 = .ok (.getfield 9, 3) := by decide +kernel
theorem dFa_ofDensity_24 : decode cFa_ofDensity 24 = .ok (.iload_n 3, 1) := by decide +kernel
theorem dFa_ofDensity_25 : decode cFa_ofDensity 25 = .ok (.iaload, 1) := by decide +kernel
theorem dFa_ofDensity_26 : decode cFa_ofDensity 26 = .ok (.i2l, 1) := by decide +kernel
theorem dFa_ofDensity_27 : decode cFa_ofDensity 27 = .ok (.goto 4, 3) := by decide +kernel
theorem dFa_ofDensity_30 : decode cFa_ofDensity 30 = .ok (.lconst 0, 1) := by decide +kernel
theorem dFa_ofDensity_31 : decode cFa_ofDensity 31 = .ok (.lreturn, 1) := by decide +kernel
-- FootprintRules$Family.ofDensity(LFootprintRules$Key;I)J
abbrev w_Fa_ofDensity (ad : Nat → Nat → Nat) (a_this : Nat) (a_values : Nat) (a_letters : Nat) (k_values : ClassId) (v_this_letterCount : Int32) (v_this_kind : Nat) (v_values : Nat → Int32) : va_W := [(a_this, .inr (2, [.ref a_values, .ref a_letters, .int v_this_letterCount, .ref (ad 0 v_this_kind)])), (a_values, .inl (k_values, 18, .inl v_values))]
def P_Fa_ofDensity (p1 : Nat) (p2 : Int32) (v_values : Nat → Int32) (post : Int64 → Prop) : Prop := p1 < 11 ∧ ∀ x2 : Int32, x2 = (zKey_first.getD p1 0) + p2 → ((x2 < 0 → post 0) ∧ (¬ x2 < 0 → ((18 ≤ x2 → post 0) ∧ (¬ 18 ≤ x2 → vp_in x2 18 ∧ post ((v_values x2.toNatClampNeg).toInt64)))))
set_option maxHeartbeats 4000000 in
set_option maxRecDepth 100000 in
theorem c_Fa_ofDensity (l : Launch) (dC : Nat → ClassId) (dI : Nat → Nat → Nat) (ad : Nat → Nat → Nat) (a_this : Nat) (a_values : Nat) (a_letters : Nat) (k_values : ClassId) (sz : Nat) (p1 : Nat) (p2 : Int32) (v_this_letterCount : Int32) (v_this_kind : Nat) (v_values : Nat → Int32) (post : Int64 → Prop) (h : P_Fa_ofDensity p1 p2 v_values post) : zMl l yFa_ofDensity wsFa_ofDensity { frames := 0, cells := 0, slots := 0, locals := 0 } (dC, dI) ad [.ref a_this, .ref (ad 1 p1), .int p2] (w_Fa_ofDensity ad a_this a_values a_letters k_values v_this_letterCount v_this_kind v_values) [(k_values, .int)] sz (fun (r : Int64) (u : Unit) => post r) (fun (u : Unit) => (w_Fa_ofDensity ad a_this a_values a_letters k_values v_this_letterCount v_this_kind v_values)) 0 0 := by
  refine Met.ofW (cc := cFa_ofDensity) (maxL := 4) (ret := (some .long)) (by decide +kernel) rfl ?_
  intro p e s m args below meth c s₁ B hml hv
  obtain ⟨rfl, hsz, hP, hK, hD0, hE⟩ := hv
  have hx := B.exec
  have hb := B.bytes
  have hr := B.returns
  have hts0 := atoms_spec (ws := wsFa_ofDensity) B.pre
  have hts := fun w h => hts0 w (List.mem_cons_of_mem _ h)
  have hown : s.vm.findClass RFa = some m.cls := findClass_of_methodNamed B.named
  have hlocks := B.notSynchronized
  subst hsz
  have hD := hD0.self (sz := s.heap.size)
  generalize hAe : va_A (w_Fa_ofDensity ad a_this a_values a_letters k_values v_this_letterCount v_this_kind v_values) s.heap.size = A at hD hE ⊢
  have hA : ∀ q : Nat, s.heap.size ≤ q → A q := fun q h => by rw [← hAe]; exact Or.inr h
  have C0 := zC.mk hx hb hr hml hown hts hlocks hA
  have hS : va_S A s.heap s.heap [] := va_S.rf
  have hl := lv_entry ([.ref a_this, .ref (ad 1 p1), .int p2]) (n := 4) (Nat.le_of_ble_eq_true rfl)
  rw [lg_entry_eq]
  generalize (lg_sl ([.ref a_this, .ref (ad 1 p1), .int p2]) ++ List.replicate (4 - (lg_sl ([.ref a_this, .ref (ad 1 p1), .int p2])).length) Slot.unset).toArray = ls at hl ⊢
  have hl : lv_has ls 4 [(0, .ref a_this), (1, .ref (ad 1 p1)), (2, .int p2)] := hl
  unfold P_Fa_ofDensity at h
  refine lv_aload_n hx hb dFa_ofDensity_0 rfl (lv_at hl 1 rfl) ?_
  obtain ⟨hn1, h⟩ := h
  refine zz_getON (o := "FootprintRules$Key") (n := "first") (d := "I") (v := .int (zKey_first.getD p1 0)) hx hb (hE.fKey_first p1 hn1) hS hown ((hE.nw _ zn_1333).use rfl) (fun _ h9 => h9) dFa_ofDensity_1 ?_
  refine lv_iload_n hx hb dFa_ofDensity_4 rfl (lv_at hl 2 rfl) ?_
  refine lv_iadd hx hb dFa_ofDensity_5 ?_
  refine lv_topi (fun x2 ex2 => ?_)
  replace h := h x2 ex2
  refine lv_istore_n (lv' := [(3, .int x2), (0, .ref a_this), (1, .ref (ad 1 p1)), (2, .int p2)]) hx hb dFa_ofDensity_6 rfl hl (by decide) rfl (fun ls hl => ?_)
  refine lv_iload_n hx hb dFa_ofDensity_7 rfl (lv_at hl 0 rfl) ?_
  refine lv_if_lt (tgt := 30) hx hb dFa_ofDensity_8 (by decide) ?_ ?_
  · intro c3
    replace h := h.1 c3
    refine lv_lconst (v := 0) hx hb dFa_ofDensity_30 (by decide) ?_
    exact W.lret (v := 0) hx hb hr (fun t ht hW => ⟨⟨0, (()), rfl, h, by rw [ht]; exact hP, hD⟩, hS.F ht⟩) hS.2.2 dFa_ofDensity_31
  · intro c3
    replace h := h.2 c3
    refine lv_iload_n hx hb dFa_ofDensity_11 rfl (lv_at hl 0 rfl) ?_
    refine lv_aload_n hx hb dFa_ofDensity_12 rfl (lv_at hl 1 rfl) ?_
    refine va_get (D := (dC, dI)) (ci := 2) (v := .ref a_values) (C := RFa) (T := TFa) (N := 4) hx hb hts inZ_Fa hown hK hP 0 rfl rfl 0 (by decide) (hts _ zw_225) (fun _ h9 => h9) rfl dFa_ofDensity_13 ?_
    refine va_alen (v := 18) hx hb hK hP 1 0 rfl rfl (show Int32.ofNat 18 = 18 by decide) dFa_ofDensity_16 ?_
    refine lv_icmp_ge (tgt := 30) hx hb dFa_ofDensity_17 (by decide) ?_ ?_
    · intro c4
      replace h := h.1 c4
      refine lv_lconst (v := 0) hx hb dFa_ofDensity_30 (by decide) ?_
      exact W.lret (v := 0) hx hb hr (fun t ht hW => ⟨⟨0, (()), rfl, h, by rw [ht]; exact hP, hD⟩, hS.F ht⟩) hS.2.2 dFa_ofDensity_31
    · intro c4
      replace h := h.2 c4
      refine lv_aload_n hx hb dFa_ofDensity_20 rfl (lv_at hl 1 rfl) ?_
      refine va_get (D := (dC, dI)) (ci := 2) (v := .ref a_values) (C := RFa) (T := TFa) (N := 4) hx hb hts inZ_Fa hown hK hP 0 rfl rfl 0 (by decide) (hts _ zw_225) (fun _ h9 => h9) rfl dFa_ofDensity_21 ?_
      refine lv_iload_n hx hb dFa_ofDensity_24 rfl (lv_at hl 0 rfl) ?_
      obtain ⟨hn5, h⟩ := h
      refine va_iald hx hb hK hP 1 0 rfl rfl hn5 dFa_ofDensity_25 ?_
      refine lv_i2l hx hb dFa_ofDensity_26 rfl ?_
      refine lv_goto (tgt := 31) hx hb dFa_ofDensity_27 (by decide) ?_
      exact W.lret (v := ((v_values x2.toNatClampNeg).toInt64)) hx hb hr (fun t ht hW => ⟨⟨((v_values x2.toNatClampNeg).toInt64), (()), rfl, h, by rw [ht]; exact hP, hD⟩, hS.F ht⟩) hS.2.2 dFa_ofDensity_31
abbrev yFa_of : MethodName := ⟨"FootprintRules$Family", "of", "(LFootprintRules$Key;)J"⟩
abbrev cFa_of : ByteArray := prog_3_method_5_code
abbrev wsFa_of : List Cond := .code yFa_of cFa_of 2 (some .long) :: zT
set_option maxRecDepth 100000 in
theorem zc_Fa_of : Cond.code yFa_of cFa_of 2 (some .long) ∈ zT := zm 717 (by rfl) (by rfl)
theorem dFa_of_0 : decode cFa_of 0 = .ok (.aload_n 0, 1) := by decide +kernel
theorem dFa_of_1 : decode cFa_of 1 = .ok (.aload_n 1, 1) := by decide +kernel
theorem dFa_of_2 : decode cFa_of 2 = .ok (.iconst 0, 1) := by decide +kernel
theorem dFa_of_3 : decode cFa_of 3 = .ok (.invokevirtual 63, 3) := by decide +kernel
theorem dFa_of_6 : decode cFa_of 6 = .ok (.lreturn, 1) := by decide +kernel
-- FootprintRules$Family.of(LFootprintRules$Key;)J
abbrev w_Fa_of (ad : Nat → Nat → Nat) (a_this : Nat) (a_values : Nat) (a_letters : Nat) (k_values : ClassId) (v_this_letterCount : Int32) (v_this_kind : Nat) (v_values : Nat → Int32) : va_W := [(a_this, .inr (2, [.ref a_values, .ref a_letters, .int v_this_letterCount, .ref (ad 0 v_this_kind)])), (a_values, .inl (k_values, 18, .inl v_values))]
def P_Fa_of (p1 : Nat) (v_values : Nat → Int32) (post : Int64 → Prop) : Prop := P_Fa_ofDensity p1 0 v_values (fun (r1 : Int64) => post r1)
set_option maxHeartbeats 4000000 in
set_option maxRecDepth 100000 in
theorem c_Fa_of (l : Launch) (dC : Nat → ClassId) (dI : Nat → Nat → Nat) (ad : Nat → Nat → Nat) (a_this : Nat) (a_values : Nat) (a_letters : Nat) (k_values : ClassId) (sz : Nat) (p1 : Nat) (v_this_letterCount : Int32) (v_this_kind : Nat) (v_values : Nat → Int32) (post : Int64 → Prop) (h : P_Fa_of p1 v_values post) : zMl l yFa_of wsFa_of { frames := 1, cells := 0, slots := 0, locals := 23 } (dC, dI) ad [.ref a_this, .ref (ad 1 p1)] (w_Fa_of ad a_this a_values a_letters k_values v_this_letterCount v_this_kind v_values) [(k_values, .int)] sz (fun (r : Int64) (u : Unit) => post r) (fun (u : Unit) => (w_Fa_of ad a_this a_values a_letters k_values v_this_letterCount v_this_kind v_values)) 0 0 := by
  refine Met.ofW (cc := cFa_of) (maxL := 2) (ret := (some .long)) (by decide +kernel) rfl ?_
  intro p e s m args below meth c s₁ B hml hv
  obtain ⟨rfl, hsz, hP, hK, hD0, hE⟩ := hv
  have hx := B.exec
  have hb := B.bytes
  have hr := B.returns
  have hts0 := atoms_spec (ws := wsFa_of) B.pre
  have hts := fun w h => hts0 w (List.mem_cons_of_mem _ h)
  have hown : s.vm.findClass RFa = some m.cls := findClass_of_methodNamed B.named
  have hlocks := B.notSynchronized
  subst hsz
  have hD := hD0.self (sz := s.heap.size)
  generalize hAe : va_A (w_Fa_of ad a_this a_values a_letters k_values v_this_letterCount v_this_kind v_values) s.heap.size = A at hD hE ⊢
  have hA : ∀ q : Nat, s.heap.size ≤ q → A q := fun q h => by rw [← hAe]; exact Or.inr h
  have C0 := zC.mk hx hb hr hml hown hts hlocks hA
  have hS : va_S A s.heap s.heap [] := va_S.rf
  have hl := lv_entry ([.ref a_this, .ref (ad 1 p1)]) (n := 2) (Nat.le_of_ble_eq_true rfl)
  rw [lg_entry_eq]
  generalize (lg_sl ([.ref a_this, .ref (ad 1 p1)]) ++ List.replicate (2 - (lg_sl ([.ref a_this, .ref (ad 1 p1)])).length) Slot.unset).toArray = ls at hl ⊢
  have hl : lv_has ls 2 [(0, .ref a_this), (1, .ref (ad 1 p1))] := hl
  unfold P_Fa_of at h
  refine lv_aload_n hx hb dFa_of_0 rfl (lv_at hl 0 rfl) ?_
  refine lv_aload_n hx hb dFa_of_1 rfl (lv_at hl 1 rfl) ?_
  refine lv_iconst (v := 0) hx hb dFa_of_2 (by decide) ?_
  refine zcall_l hP hD hS hA [0, 1] [] (va_runV (As := [.ref (ad 1 p1), .int 0]) (rest := []) ⟨hx, hb, hml, hown, hts⟩ (c_Fa_ofDensity l dC dI ad a_this a_values a_letters k_values _ p1 0 v_this_letterCount v_this_kind v_values _ h) ⟨callB_of 2 hts (zgood zc_Fa_ofDensity) rfl rfl rfl (hts _ zw_102) (hts _ zw_718) (by decide +kernel) ⟨Nat.le_of_ble_eq_true rfl, Nat.le_of_ble_eq_true rfl⟩, (hts _ zw_720), (hts _ zw_30)⟩ (zpreV hE hK hP hD hS hA [0, 1] [0] (by rfl) (by rfl) (by decide) (ci := 2) (q0 := 0) rfl (by rfl)) rfl rfl hl.1 rfl (lv_room (Nat.le_of_ble_eq_true rfl)) dFa_of_3 ⟨Nat.le_of_ble_eq_true rfl, Nat.le_of_ble_eq_true rfl⟩) (by rfl) (by rfl) (by decide) (by decide) (fun r1 u H locs h hP hD hS => ?_)
  try dsimp only at h
  have hP := hP.sub (ws' := (w_Fa_of ad a_this a_values a_letters k_values v_this_letterCount v_this_kind v_values)) [0, 1] rfl
  have hD := hD.sub (ws' := (w_Fa_of ad a_this a_values a_letters k_values v_this_letterCount v_this_kind v_values)) [0, 1] (by decide) rfl
  exact W.lret (v := r1) hx hb hr (fun t ht hW => ⟨⟨r1, (()), rfl, h, by rw [ht]; exact hP, hD⟩, hS.F ht⟩) hS.2.2 dFa_of_6
abbrev yKe_takes : MethodName := ⟨"FootprintRules$Key", "takes", "(I)Z"⟩
abbrev cKe_takes : ByteArray := prog_7_method_4_code
abbrev wsKe_takes : List Cond := .code yKe_takes cKe_takes 2 (some .boolean) :: zT
set_option maxRecDepth 100000 in
theorem zc_Ke_takes : Cond.code yKe_takes cKe_takes 2 (some .boolean) ∈ zT := zm 624 (by rfl) (by rfl)
theorem dKe_takes_0 : decode cKe_takes 0 = .ok (.iload_n 1, 1) := by decide +kernel
theorem dKe_takes_1 : decode cKe_takes 1 = .ok (.ifCond .ne 16, 3) := by decide +kernel
theorem dKe_takes_4 : decode cKe_takes 4 = .ok (.aload_n 0, 1) := by decide +kernel
theorem dKe_takes_5 : decode cKe_takes 5 = .ok (.getstatic 18, 3) := by decide +kernel
theorem dKe_takes_8 : decode cKe_takes 8 = .ok (.if_acmp .eq 7, 3) := by decide +kernel
theorem dKe_takes_11 : decode cKe_takes 11 = .ok (.iconst 1, 1) := by decide +kernel
theorem dKe_takes_12 : decode cKe_takes 12 = .ok (.goto 4, 3) := by decide +kernel
theorem dKe_takes_15 : decode cKe_takes 15 = .ok (.iconst 0, 1) := by decide +kernel
theorem dKe_takes_16 : decode cKe_takes 16 = .ok (.ireturn, 1) := by decide +kernel
theorem dKe_takes_17 : decode cKe_takes 17 = .ok (.iload_n 1, 1) := by decide +kernel
theorem dKe_takes_18 : decode cKe_takes 18 = .ok (.aload_n 0, 1) := by decide +kernel
theorem dKe_takes_19 : decode cKe_takes 19 = .ok (.getfield 69, 3) := by decide +kernel
theorem dKe_takes_22 : decode cKe_takes 22 = .ok (.if_icmp .lt 26, 3) := by decide +kernel
theorem dKe_takes_25 : decode cKe_takes 25 = .ok (.iload_n 1, 1) := by decide +kernel
theorem dKe_takes_26 : decode cKe_takes 26 = .ok (.ldc 72, 2) := by decide +kernel
theorem dKe_takes_28 : decode cKe_takes 28 = .ok (.if_icmp .gt 20, 3) := by decide +kernel
theorem dKe_takes_31 : decode cKe_takes 31 = .ok (.aload_n 0, 1) := by decide +kernel
theorem dKe_takes_32 : decode cKe_takes 32 = .ok (.getstatic 33, 3) := by decide +kernel
theorem dKe_takes_35 : decode cKe_takes 35 = .ok (.if_acmp .ne 9, 3) := by decide +kernel
theorem dKe_takes_38 : decode cKe_takes 38 = .ok (.iload_n 1, 1) := by decide +kernel
theorem dKe_takes_39 : decode cKe_takes 39 = .ok (.iconst 2, 1) := by decide +kernel
theorem dKe_takes_40 : decode cKe_takes 40 = .ok (.irem, 1) := by decide +kernel
theorem dKe_takes_41 : decode cKe_takes 41 = .ok (.ifCond .ne 7, 3) := by decide +kernel
theorem dKe_takes_44 : decode cKe_takes 44 = .ok (.iconst 1, 1) := by decide +kernel
theorem dKe_takes_45 : decode cKe_takes 45 = .ok (.goto 4, 3) := by decide +kernel
theorem dKe_takes_48 : decode cKe_takes 48 = .ok (.iconst 0, 1) := by decide +kernel
theorem dKe_takes_49 : decode cKe_takes 49 = .ok (.ireturn, 1) := by decide +kernel
-- FootprintRules$Key.takes(I)Z
abbrev w_Ke_takes (ad : Nat → Nat → Nat)    : va_W := []
def P_Ke_takes_44  (post : Int32 → Prop)  : Prop := post 1
set_option maxHeartbeats 4000000 in
set_option maxRecDepth 100000 in
theorem w_Ke_takes_44 (l : Launch) {p : Program} {e : Env} {s : State} {m : MethodId} {args : Array Value} {below : List Frame} {meth : Method} {c : Code} {dC : Nat → ClassId} {dI : Nat → Nat → Nat} {ad : Nat → Nat → Nat} {A : Nat → Prop} (C0 : zC p s m args meth c cKe_takes 2 RKe zT (some .boolean) A) (hE : zE ad A s)   (p0 : Nat) (p1 : Int32) (post : Int32 → Prop) (hK : va_K (dC, dI) vwCl [] s) : ∀  (H : Heap) (locs : List Loc), P_Ke_takes_44 post → va_P (dC, dI) vwCl (w_Ke_takes ad ) H → va_D A (w_Ke_takes ad ) → va_S A s.heap H locs → ∀ ls : Array Slot, lv_has ls 2 [] → W p l e (headSpec wsKe_takes { frames := 0, cells := 0, slots := 0, locals := 0 }).room s m args below meth c H locs 0 0 (MQ below (va_Qi (fun (r : Int32) (u : Unit) => post r) (zB (dC, dI) A (fun (u : Unit) => (w_Ke_takes ad ))) A) args s 0 0 A) (F0 m 44 ls []) := by
  obtain ⟨hx, hb, hr, hml, hown, hts, hlocks, hA⟩ := id C0
  intro  H locs h hP hD hS ls hl
  unfold P_Ke_takes_44 at h
  refine lv_iconst (v := 1) hx hb dKe_takes_44 (by decide) ?_
  refine lv_goto (tgt := 49) hx hb dKe_takes_45 (by decide) ?_
  exact W.zret (v := 1) hx hb hr rfl (fun t ht hW => ⟨⟨1, (()), rfl, h, by rw [ht]; exact hP, hD⟩, hS.F ht⟩) hS.2.2 dKe_takes_49
def P_Ke_takes (p0 : Nat) (p1 : Int32) (post : Int32 → Prop) : Prop := ((¬ p1 = 0 → p0 < 11 ∧ ((p1 < (zKey_least.getD p0 0) → post 0) ∧ (¬ p1 < (zKey_least.getD p0 0) → ((10000000 < p1 → post 0) ∧ (¬ 10000000 < p1 → p0 < 11 ∧ ((¬ p0 = 9 → P_Ke_takes_44 post) ∧ (p0 = 9 → ((¬ (p1 - p1 / 2 * 2) = 0 → post 0) ∧ ((p1 - p1 / 2 * 2) = 0 → P_Ke_takes_44 post))))))))) ∧ (p1 = 0 → p0 < 11 ∧ ((p0 = 4 → post 0) ∧ (¬ p0 = 4 → post 1))))
set_option maxHeartbeats 4000000 in
set_option maxRecDepth 100000 in
theorem c_Ke_takes (l : Launch) (dC : Nat → ClassId) (dI : Nat → Nat → Nat) (ad : Nat → Nat → Nat)   (sz : Nat) (p0 : Nat) (p1 : Int32) (post : Int32 → Prop) (h : P_Ke_takes p0 p1 post) : zMi l yKe_takes wsKe_takes { frames := 0, cells := 0, slots := 0, locals := 0 } (dC, dI) ad [.ref (ad 1 p0), .int p1] (w_Ke_takes ad ) [] sz (fun (r : Int32) (u : Unit) => post r) (fun (u : Unit) => (w_Ke_takes ad )) 0 0 := by
  refine Met.ofW (cc := cKe_takes) (maxL := 2) (ret := (some .boolean)) (by decide +kernel) rfl ?_
  intro p e s m args below meth c s₁ B hml hv
  obtain ⟨rfl, hsz, hP, hK, hD0, hE⟩ := hv
  have hx := B.exec
  have hb := B.bytes
  have hr := B.returns
  have hts0 := atoms_spec (ws := wsKe_takes) B.pre
  have hts := fun w h => hts0 w (List.mem_cons_of_mem _ h)
  have hown : s.vm.findClass RKe = some m.cls := findClass_of_methodNamed B.named
  have hlocks := B.notSynchronized
  subst hsz
  have hD := hD0.self (sz := s.heap.size)
  generalize hAe : va_A (w_Ke_takes ad ) s.heap.size = A at hD hE ⊢
  have hA : ∀ q : Nat, s.heap.size ≤ q → A q := fun q h => by rw [← hAe]; exact Or.inr h
  have C0 := zC.mk hx hb hr hml hown hts hlocks hA
  have hS : va_S A s.heap s.heap [] := va_S.rf
  have hl := lv_entry ([.ref (ad 1 p0), .int p1]) (n := 2) (Nat.le_of_ble_eq_true rfl)
  rw [lg_entry_eq]
  generalize (lg_sl ([.ref (ad 1 p0), .int p1]) ++ List.replicate (2 - (lg_sl ([.ref (ad 1 p0), .int p1])).length) Slot.unset).toArray = ls at hl ⊢
  have hl : lv_has ls 2 [(0, .ref (ad 1 p0)), (1, .int p1)] := hl
  unfold P_Ke_takes at h
  refine lv_iload_n hx hb dKe_takes_0 rfl (lv_at hl 1 rfl) ?_
  refine lv_if_ne (tgt := 17) hx hb dKe_takes_1 (by decide) ?_ ?_
  · intro c1
    replace h := h.1 c1
    refine lv_iload_n hx hb dKe_takes_17 rfl (lv_at hl 1 rfl) ?_
    refine lv_aload_n hx hb dKe_takes_18 rfl (lv_at hl 0 rfl) ?_
    obtain ⟨hn2, h⟩ := h
    refine zz_getO (o := "FootprintRules$Key") (n := "least") (d := "I") (v := .int (zKey_least.getD p0 0)) hx hb (hE.fKey_least p0 hn2) hS hown (hts _ zw_1337) (fun _ h9 => h9) dKe_takes_19 ?_
    refine lv_icmp_lt (tgt := 48) hx hb dKe_takes_22 (by decide) ?_ ?_
    · intro c3
      replace h := h.1 c3
      refine lv_iconst (v := 0) hx hb dKe_takes_48 (by decide) ?_
      exact W.zret (v := 0) hx hb hr rfl (fun t ht hW => ⟨⟨0, (()), rfl, h, by rw [ht]; exact hP, hD⟩, hS.F ht⟩) hS.2.2 dKe_takes_49
    · intro c3
      replace h := h.2 c3
      refine lv_iload_n hx hb dKe_takes_25 rfl (lv_at hl 1 rfl) ?_
      refine lv_ldc (own := RKe) (index := 72) (v := 10000000) hx hb hown (hts _ zw_626) dKe_takes_26 ?_
      refine lv_icmp_gt (tgt := 48) hx hb dKe_takes_28 (by decide) ?_ ?_
      · intro c4
        replace h := h.1 c4
        refine lv_iconst (v := 0) hx hb dKe_takes_48 (by decide) ?_
        exact W.zret (v := 0) hx hb hr rfl (fun t ht hW => ⟨⟨0, (()), rfl, h, by rw [ht]; exact hP, hD⟩, hS.F ht⟩) hS.2.2 dKe_takes_49
      · intro c4
        replace h := h.2 c4
        refine lv_aload_n hx hb dKe_takes_31 rfl (lv_at hl 0 rfl) ?_
        refine va_gets (C := "FootprintRules$Key") (n := "VIA") (d := "LFootprintRules$Key;") hx hb (hE.enKey.1 9 (by decide)).1 hS hown (hts _ zw_627) (fun _ h9 => h9) dKe_takes_32 ?_
        obtain ⟨hn5, h⟩ := h
        refine zz_acmp_ne (tgt := 44) hx hb dKe_takes_35 (by decide) (hE.inj_Key hn5 (by decide)) ?_ ?_
        · intro c6
          replace h := h.1 c6
          exact w_Ke_takes_44 l C0 hE p0 p1 post hK _ _ h hP hD hS ls (lv_sub hl [] rfl)
        · intro c6
          replace h := h.2 c6
          refine lv_iload_n hx hb dKe_takes_38 rfl (lv_at hl 1 rfl) ?_
          refine lv_iconst (v := 2) hx hb dKe_takes_39 (by decide) ?_
          refine lv_irem hx hb dKe_takes_40 (by decide) ?_
          refine lv_if_ne (tgt := 48) hx hb dKe_takes_41 (by decide) ?_ ?_
          · intro c7
            replace h := h.1 c7
            refine lv_iconst (v := 0) hx hb dKe_takes_48 (by decide) ?_
            exact W.zret (v := 0) hx hb hr rfl (fun t ht hW => ⟨⟨0, (()), rfl, h, by rw [ht]; exact hP, hD⟩, hS.F ht⟩) hS.2.2 dKe_takes_49
          · intro c7
            replace h := h.2 c7
            exact w_Ke_takes_44 l C0 hE p0 p1 post hK _ _ h hP hD hS ls (lv_sub hl [] rfl)
  · intro c1
    replace h := h.2 c1
    refine lv_aload_n hx hb dKe_takes_4 rfl (lv_at hl 0 rfl) ?_
    refine va_gets (C := "FootprintRules$Key") (n := "ROUNDING") (d := "LFootprintRules$Key;") hx hb (hE.enKey.1 4 (by decide)).1 hS hown (hts _ zw_625) (fun _ h9 => h9) dKe_takes_5 ?_
    obtain ⟨hn8, h⟩ := h
    refine zz_acmp_eq (tgt := 15) hx hb dKe_takes_8 (by decide) (hE.inj_Key hn8 (by decide)) ?_ ?_
    · intro c9
      replace h := h.1 c9
      refine lv_iconst (v := 0) hx hb dKe_takes_15 (by decide) ?_
      exact W.zret (v := 0) hx hb hr rfl (fun t ht hW => ⟨⟨0, (()), rfl, h, by rw [ht]; exact hP, hD⟩, hS.F ht⟩) hS.2.2 dKe_takes_16
    · intro c9
      replace h := h.2 c9
      refine lv_iconst (v := 1) hx hb dKe_takes_11 (by decide) ?_
      refine lv_goto (tgt := 16) hx hb dKe_takes_12 (by decide) ?_
      exact W.zret (v := 1) hx hb hr rfl (fun t ht hW => ⟨⟨1, (()), rfl, h, by rw [ht]; exact hP, hD⟩, hS.F ht⟩) hS.2.2 dKe_takes_16
abbrev yLi_unitAt : MethodName := ⟨"FootprintRules$Line", "unitAt", "(I)I"⟩
abbrev cLi_unitAt : ByteArray := prog_9_method_2_code
abbrev wsLi_unitAt : List Cond := .code yLi_unitAt cLi_unitAt 2 (some .int) :: zT
set_option maxRecDepth 100000 in
theorem zc_Li_unitAt : Cond.code yLi_unitAt cLi_unitAt 2 (some .int) ∈ zT := zm 909 (by rfl) (by rfl)
theorem dLi_unitAt_0 : decode cLi_unitAt 0 = .ok (.iload_n 1, 1) := by decide +kernel
theorem dLi_unitAt_1 : decode cLi_unitAt 1 = .ok (.ifCond .lt 27, 3) := by decide +kernel
theorem dLi_unitAt_4 : decode cLi_unitAt 4 = .ok (.iload_n 1, 1) := by decide +kernel
theorem dLi_unitAt_5 : decode cLi_unitAt 5 = .ok (.aload_n 0, 1) := by decide +kernel
theorem dLi_unitAt_6 : decode cLi_unitAt 6 = .ok (.getfield 15, 3) := by decide +kernel
theorem dLi_unitAt_9 : decode cLi_unitAt 9 = .ok (.if_icmp .ge 19, 3) := by decide +kernel
theorem dLi_unitAt_12 : decode cLi_unitAt 12 = .ok (.iload_n 1, 1) := by decide +kernel
theorem dLi_unitAt_13 : decode cLi_unitAt 13 = .ok (.sipush 4096, 3) := by decide +kernel
theorem dLi_unitAt_16 : decode cLi_unitAt 16 = .ok (.if_icmp .ge 12, 3) := by decide +kernel
theorem dLi_unitAt_19 : decode cLi_unitAt 19 = .ok (.aload_n 0, 1) := by decide +kernel
theorem dLi_unitAt_20 : decode cLi_unitAt 20 = .ok (.getfield 9, 3) := by decide +kernel
theorem dLi_unitAt_23 : decode cLi_unitAt 23 = .ok (.iload_n 1, 1) := by decide +kernel
theorem dLi_unitAt_24 : decode cLi_unitAt 24 = .ok (.caload, 1) := by decide +kernel
theorem dLi_unitAt_25 : decode cLi_unitAt 25 = .ok (.goto 4, 3) := by decide +kernel
theorem dLi_unitAt_28 : decode cLi_unitAt 28 = .ok (.iconst (-1), 1) := by decide +kernel
theorem dLi_unitAt_29 : decode cLi_unitAt 29 = .ok (.ireturn, 1) := by decide +kernel
-- FootprintRules$Line.unitAt(I)I
abbrev w_Li_unitAt (ad : Nat → Nat → Nat) (a_this : Nat) (a_units : Nat) (k_units : ClassId) (v_this_length : Int32) (v_units : Nat → Int32) : va_W := [(a_this, .inr (7, [.ref a_units, .int v_this_length])), (a_units, .inl (k_units, 4096, .inl v_units))]
def P_Li_unitAt (p1 : Int32) (v_this_length : Int32) (v_units : Nat → Int32) (post : Int32 → Prop) : Prop := ((p1 < 0 → post (-1)) ∧ (¬ p1 < 0 → ((v_this_length ≤ p1 → post (-1)) ∧ (¬ v_this_length ≤ p1 → ((4096 ≤ p1 → post (-1)) ∧ (¬ 4096 ≤ p1 → vp_in p1 4096 ∧ post (v_units p1.toNatClampNeg)))))))
set_option maxHeartbeats 4000000 in
set_option maxRecDepth 100000 in
theorem c_Li_unitAt (l : Launch) (dC : Nat → ClassId) (dI : Nat → Nat → Nat) (ad : Nat → Nat → Nat) (a_this : Nat) (a_units : Nat) (k_units : ClassId) (sz : Nat) (p1 : Int32) (v_this_length : Int32) (v_units : Nat → Int32) (post : Int32 → Prop) (h : P_Li_unitAt p1 v_this_length v_units post) : zMi l yLi_unitAt wsLi_unitAt { frames := 0, cells := 0, slots := 0, locals := 0 } (dC, dI) ad [.ref a_this, .int p1] (w_Li_unitAt ad a_this a_units k_units v_this_length v_units) [(k_units, .char)] sz (fun (r : Int32) (u : Unit) => post r) (fun (u : Unit) => (w_Li_unitAt ad a_this a_units k_units v_this_length v_units)) 0 0 := by
  refine Met.ofW (cc := cLi_unitAt) (maxL := 2) (ret := (some .int)) (by decide +kernel) rfl ?_
  intro p e s m args below meth c s₁ B hml hv
  obtain ⟨rfl, hsz, hP, hK, hD0, hE⟩ := hv
  have hx := B.exec
  have hb := B.bytes
  have hr := B.returns
  have hts0 := atoms_spec (ws := wsLi_unitAt) B.pre
  have hts := fun w h => hts0 w (List.mem_cons_of_mem _ h)
  have hown : s.vm.findClass RLi = some m.cls := findClass_of_methodNamed B.named
  have hlocks := B.notSynchronized
  subst hsz
  have hD := hD0.self (sz := s.heap.size)
  generalize hAe : va_A (w_Li_unitAt ad a_this a_units k_units v_this_length v_units) s.heap.size = A at hD hE ⊢
  have hA : ∀ q : Nat, s.heap.size ≤ q → A q := fun q h => by rw [← hAe]; exact Or.inr h
  have C0 := zC.mk hx hb hr hml hown hts hlocks hA
  have hS : va_S A s.heap s.heap [] := va_S.rf
  have hl := lv_entry ([.ref a_this, .int p1]) (n := 2) (Nat.le_of_ble_eq_true rfl)
  rw [lg_entry_eq]
  generalize (lg_sl ([.ref a_this, .int p1]) ++ List.replicate (2 - (lg_sl ([.ref a_this, .int p1])).length) Slot.unset).toArray = ls at hl ⊢
  have hl : lv_has ls 2 [(0, .ref a_this), (1, .int p1)] := hl
  unfold P_Li_unitAt at h
  refine lv_iload_n hx hb dLi_unitAt_0 rfl (lv_at hl 1 rfl) ?_
  refine lv_if_lt (tgt := 28) hx hb dLi_unitAt_1 (by decide) ?_ ?_
  · intro c1
    replace h := h.1 c1
    refine lv_iconst (v := (-1)) hx hb dLi_unitAt_28 (by decide) ?_
    exact W.iret (v := (-1)) hx hb hr (fun t ht hW => ⟨⟨(-1), (()), rfl, h, by rw [ht]; exact hP, hD⟩, hS.F ht⟩) hS.2.2 dLi_unitAt_29
  · intro c1
    replace h := h.2 c1
    refine lv_iload_n hx hb dLi_unitAt_4 rfl (lv_at hl 1 rfl) ?_
    refine lv_aload_n hx hb dLi_unitAt_5 rfl (lv_at hl 0 rfl) ?_
    refine va_get (D := (dC, dI)) (ci := 7) (v := .int v_this_length) (C := RLi) (T := TLi) (N := 2) hx hb hts inZ_Li hown hK hP 0 rfl rfl 1 (by decide) (hts _ zw_271) (fun _ h9 => h9) rfl dLi_unitAt_6 ?_
    refine lv_icmp_ge (tgt := 28) hx hb dLi_unitAt_9 (by decide) ?_ ?_
    · intro c2
      replace h := h.1 c2
      refine lv_iconst (v := (-1)) hx hb dLi_unitAt_28 (by decide) ?_
      exact W.iret (v := (-1)) hx hb hr (fun t ht hW => ⟨⟨(-1), (()), rfl, h, by rw [ht]; exact hP, hD⟩, hS.F ht⟩) hS.2.2 dLi_unitAt_29
    · intro c2
      replace h := h.2 c2
      refine lv_iload_n hx hb dLi_unitAt_12 rfl (lv_at hl 1 rfl) ?_
      refine lv_sipush (v := 4096) hx hb dLi_unitAt_13 (by decide) ?_
      refine lv_icmp_ge (tgt := 28) hx hb dLi_unitAt_16 (by decide) ?_ ?_
      · intro c3
        replace h := h.1 c3
        refine lv_iconst (v := (-1)) hx hb dLi_unitAt_28 (by decide) ?_
        exact W.iret (v := (-1)) hx hb hr (fun t ht hW => ⟨⟨(-1), (()), rfl, h, by rw [ht]; exact hP, hD⟩, hS.F ht⟩) hS.2.2 dLi_unitAt_29
      · intro c3
        replace h := h.2 c3
        refine lv_aload_n hx hb dLi_unitAt_19 rfl (lv_at hl 0 rfl) ?_
        refine va_get (D := (dC, dI)) (ci := 7) (v := .ref a_units) (C := RLi) (T := TLi) (N := 2) hx hb hts inZ_Li hown hK hP 0 rfl rfl 0 (by decide) (hts _ zw_270) (fun _ h9 => h9) rfl dLi_unitAt_20 ?_
        refine lv_iload_n hx hb dLi_unitAt_23 rfl (lv_at hl 1 rfl) ?_
        obtain ⟨hn4, h⟩ := h
        refine va_cald hx hb hK hP 1 0 rfl rfl hn4 dLi_unitAt_24 ?_
        refine lv_goto (tgt := 29) hx hb dLi_unitAt_25 (by decide) ?_
        exact W.iret (v := (v_units p1.toNatClampNeg)) hx hb hr (fun t ht hW => ⟨⟨(v_units p1.toNatClampNeg), (()), rfl, h, by rw [ht]; exact hP, hD⟩, hS.F ht⟩) hS.2.2 dLi_unitAt_29
abbrev yLi_addUnit : MethodName := ⟨"FootprintRules$Line", "addUnit", "(C)V"⟩
abbrev cLi_addUnit : ByteArray := prog_9_method_3_code
abbrev wsLi_addUnit : List Cond := .code yLi_addUnit cLi_addUnit 2 none :: zT
set_option maxRecDepth 100000 in
theorem zc_Li_addUnit : Cond.code yLi_addUnit cLi_addUnit 2 none ∈ zT := zm 883 (by rfl) (by rfl)
theorem dLi_addUnit_0 : decode cLi_addUnit 0 = .ok (.aload_n 0, 1) := by decide +kernel
theorem dLi_addUnit_1 : decode cLi_addUnit 1 = .ok (.getfield 15, 3) := by decide +kernel
theorem dLi_addUnit_4 : decode cLi_addUnit 4 = .ok (.ifCond .lt 33, 3) := by decide +kernel
theorem dLi_addUnit_7 : decode cLi_addUnit 7 = .ok (.aload_n 0, 1) := by decide +kernel
theorem dLi_addUnit_8 : decode cLi_addUnit 8 = .ok (.getfield 15, 3) := by decide +kernel
theorem dLi_addUnit_11 : decode cLi_addUnit 11 = .ok (.sipush 4096, 3) := by decide +kernel
theorem dLi_addUnit_14 : decode cLi_addUnit 14 = .ok (.if_icmp .ge 23, 3) := by decide +kernel
theorem dLi_addUnit_17 : decode cLi_addUnit 17 = .ok (.aload_n 0, 1) := by decide +kernel
theorem dLi_addUnit_18 : decode cLi_addUnit 18 = .ok (.getfield 9, 3) := by decide +kernel
theorem dLi_addUnit_21 : decode cLi_addUnit 21 = .ok (.aload_n 0, 1) := by decide +kernel
theorem dLi_addUnit_22 : decode cLi_addUnit 22 = .ok (.getfield 15, 3) := by decide +kernel
theorem dLi_addUnit_25 : decode cLi_addUnit 25 = .ok (.iload_n 1, 1) := by decide +kernel
theorem dLi_addUnit_26 : decode cLi_addUnit 26 = .ok (.castore, 1) := by decide +kernel
theorem dLi_addUnit_27 : decode cLi_addUnit 27 = .ok (.aload_n 0, 1) := by decide +kernel
theorem dLi_addUnit_28 : decode cLi_addUnit 28 = .ok (.dup, 1) := by decide +kernel
theorem dLi_addUnit_29 : decode cLi_addUnit 29 = .ok (.getfield 15, 3) := by decide +kernel
theorem dLi_addUnit_32 : decode cLi_addUnit 32 = .ok (.iconst 1, 1) := by decide +kernel
theorem dLi_addUnit_33 : decode cLi_addUnit 33 = .ok (.iadd, 1) := by decide +kernel
theorem dLi_addUnit_34 : decode cLi_addUnit 34 = .ok (.putfield 15, 3) := by decide +kernel
theorem dLi_addUnit_37 : decode cLi_addUnit 37 = .ok (.return_, 1) := by decide +kernel
-- FootprintRules$Line.addUnit(C)V
abbrev w_Li_addUnit (ad : Nat → Nat → Nat) (a_this : Nat) (a_units : Nat) (k_units : ClassId) (v_this_length : Int32) (v_units : Nat → Int32) : va_W := [(a_this, .inr (7, [.ref a_units, .int v_this_length])), (a_units, .inl (k_units, 4096, .inl v_units))]
def P_Li_addUnit (p1 : Int32) (v_this_length : Int32) (v_units : Nat → Int32) (post : Int32 → (Nat → Int32) → Prop) : Prop := ((v_this_length < 0 → post v_this_length v_units) ∧ (¬ v_this_length < 0 → ((4096 ≤ v_this_length → post v_this_length v_units) ∧ (¬ 4096 ≤ v_this_length → vp_in v_this_length 4096 ∧ ∀ x4 : Int32, x4 = v_this_length + 1 → post x4 (upd v_units v_this_length.toNatClampNeg (vp_nar .char p1))))))
set_option maxHeartbeats 4000000 in
set_option maxRecDepth 100000 in
theorem c_Li_addUnit (l : Launch) (dC : Nat → ClassId) (dI : Nat → Nat → Nat) (ad : Nat → Nat → Nat) (a_this : Nat) (a_units : Nat) (k_units : ClassId) (sz : Nat) (p1 : Int32) (v_this_length : Int32) (v_units : Nat → Int32) (post : Int32 → (Nat → Int32) → Prop) (h : P_Li_addUnit p1 v_this_length v_units post) : zMv l yLi_addUnit wsLi_addUnit { frames := 0, cells := 0, slots := 0, locals := 0 } (dC, dI) ad [.ref a_this, .int p1] (w_Li_addUnit ad a_this a_units k_units v_this_length v_units) [(k_units, .char)] sz (fun (u : Int32 × (Nat → Int32)) => post u.1 u.2) (fun (u : Int32 × (Nat → Int32)) => (w_Li_addUnit ad a_this a_units k_units u.1 u.2)) 0 0 := by
  refine Met.ofW (cc := cLi_addUnit) (maxL := 2) (ret := none) (by decide +kernel) rfl ?_
  intro p e s m args below meth c s₁ B hml hv
  obtain ⟨rfl, hsz, hP, hK, hD0, hE⟩ := hv
  have hx := B.exec
  have hb := B.bytes
  have hr := B.returns
  have hts0 := atoms_spec (ws := wsLi_addUnit) B.pre
  have hts := fun w h => hts0 w (List.mem_cons_of_mem _ h)
  have hown : s.vm.findClass RLi = some m.cls := findClass_of_methodNamed B.named
  have hlocks := B.notSynchronized
  subst hsz
  have hD := hD0.self (sz := s.heap.size)
  generalize hAe : va_A (w_Li_addUnit ad a_this a_units k_units v_this_length v_units) s.heap.size = A at hD hE ⊢
  have hA : ∀ q : Nat, s.heap.size ≤ q → A q := fun q h => by rw [← hAe]; exact Or.inr h
  have C0 := zC.mk hx hb hr hml hown hts hlocks hA
  have hS : va_S A s.heap s.heap [] := va_S.rf
  have hl := lv_entry ([.ref a_this, .int p1]) (n := 2) (Nat.le_of_ble_eq_true rfl)
  rw [lg_entry_eq]
  generalize (lg_sl ([.ref a_this, .int p1]) ++ List.replicate (2 - (lg_sl ([.ref a_this, .int p1])).length) Slot.unset).toArray = ls at hl ⊢
  have hl : lv_has ls 2 [(0, .ref a_this), (1, .int p1)] := hl
  unfold P_Li_addUnit at h
  refine lv_aload_n hx hb dLi_addUnit_0 rfl (lv_at hl 0 rfl) ?_
  refine va_get (D := (dC, dI)) (ci := 7) (v := .int v_this_length) (C := RLi) (T := TLi) (N := 2) hx hb hts inZ_Li hown hK hP 0 rfl rfl 1 (by decide) (hts _ zw_271) (fun _ h9 => h9) rfl dLi_addUnit_1 ?_
  refine lv_if_lt (tgt := 37) hx hb dLi_addUnit_4 (by decide) ?_ ?_
  · intro c1
    replace h := h.1 c1
    exact W.vret hx hb hr (fun t ht hW => ⟨⟨(v_this_length, v_units), rfl, h, by rw [ht]; exact hP, hD⟩, hS.F ht⟩) hS.2.2 dLi_addUnit_37
  · intro c1
    replace h := h.2 c1
    refine lv_aload_n hx hb dLi_addUnit_7 rfl (lv_at hl 0 rfl) ?_
    refine va_get (D := (dC, dI)) (ci := 7) (v := .int v_this_length) (C := RLi) (T := TLi) (N := 2) hx hb hts inZ_Li hown hK hP 0 rfl rfl 1 (by decide) (hts _ zw_271) (fun _ h9 => h9) rfl dLi_addUnit_8 ?_
    refine lv_sipush (v := 4096) hx hb dLi_addUnit_11 (by decide) ?_
    refine lv_icmp_ge (tgt := 37) hx hb dLi_addUnit_14 (by decide) ?_ ?_
    · intro c2
      replace h := h.1 c2
      exact W.vret hx hb hr (fun t ht hW => ⟨⟨(v_this_length, v_units), rfl, h, by rw [ht]; exact hP, hD⟩, hS.F ht⟩) hS.2.2 dLi_addUnit_37
    · intro c2
      replace h := h.2 c2
      refine lv_aload_n hx hb dLi_addUnit_17 rfl (lv_at hl 0 rfl) ?_
      refine va_get (D := (dC, dI)) (ci := 7) (v := .ref a_units) (C := RLi) (T := TLi) (N := 2) hx hb hts inZ_Li hown hK hP 0 rfl rfl 0 (by decide) (hts _ zw_270) (fun _ h9 => h9) rfl dLi_addUnit_18 ?_
      refine lv_aload_n hx hb dLi_addUnit_21 rfl (lv_at hl 0 rfl) ?_
      refine va_get (D := (dC, dI)) (ci := 7) (v := .int v_this_length) (C := RLi) (T := TLi) (N := 2) hx hb hts inZ_Li hown hK hP 0 rfl rfl 1 (by decide) (hts _ zw_271) (fun _ h9 => h9) rfl dLi_addUnit_22 ?_
      refine lv_iload_n hx hb dLi_addUnit_25 rfl (lv_at hl 1 rfl) ?_
      obtain ⟨hn3, h⟩ := h
      refine va_cast hx hb hK hP hD hS 1 0 rfl rfl hn3 dLi_addUnit_26 (fun H locs hP hD hS => ?_)
      have hP : va_P (dC, dI) vwCl (w_Li_addUnit ad a_this a_units k_units v_this_length (upd v_units v_this_length.toNatClampNeg (vp_nar .char p1))) H := hP
      have hD : va_D A (w_Li_addUnit ad a_this a_units k_units v_this_length (upd v_units v_this_length.toNatClampNeg (vp_nar .char p1))) := hD
      refine lv_aload_n hx hb dLi_addUnit_27 rfl (lv_at hl 0 rfl) ?_
      refine lv_dup hx hb dLi_addUnit_28 rfl ?_
      refine va_get (D := (dC, dI)) (ci := 7) (v := .int v_this_length) (C := RLi) (T := TLi) (N := 2) hx hb hts inZ_Li hown hK hP 0 rfl rfl 1 (by decide) (hts _ zw_271) (fun _ h9 => h9) rfl dLi_addUnit_29 ?_
      refine lv_iconst (v := 1) hx hb dLi_addUnit_32 (by decide) ?_
      refine lv_iadd hx hb dLi_addUnit_33 ?_
      refine lv_topi (fun x4 ex4 => ?_)
      replace h := h x4 ex4
      refine va_put (D := (dC, dI)) (ci := 7) (v := .int x4) (ty := .int) (C := RLi) (T := TLi) (N := 2) hx hb hts inZ_Li tyLi tyLi_ok nmLi hown hK hP hD hS 0 rfl rfl 1 (by decide) (hts _ zw_271) (fun _ h9 => h9) rfl (by decide +kernel) rfl rfl (Nat.le_of_ble_eq_true rfl) dLi_addUnit_34 (fun H locs hP hD hS => ?_)
      have hP : va_P (dC, dI) vwCl (w_Li_addUnit ad a_this a_units k_units x4 (upd v_units v_this_length.toNatClampNeg (vp_nar .char p1))) H := hP
      have hD : va_D A (w_Li_addUnit ad a_this a_units k_units x4 (upd v_units v_this_length.toNatClampNeg (vp_nar .char p1))) := hD
      exact W.vret hx hb hr (fun t ht hW => ⟨⟨(x4, (upd v_units v_this_length.toNatClampNeg (vp_nar .char p1))), rfl, h, by rw [ht]; exact hP, hD⟩, hS.F ht⟩) hS.2.2 dLi_addUnit_37
abbrev yLi_addNumber : MethodName := ⟨"FootprintRules$Line", "addNumber", "(J)V"⟩
abbrev cLi_addNumber : ByteArray := prog_9_method_5_code
abbrev wsLi_addNumber : List Cond := .code yLi_addNumber cLi_addNumber 8 none :: zT
set_option maxRecDepth 100000 in
theorem zc_Li_addNumber : Cond.code yLi_addNumber cLi_addNumber 8 none ∈ zT := zm 887 (by rfl) (by rfl)
theorem dLi_addNumber_0 : decode cLi_addNumber 0 = .ok (.lload_n 1, 1) := by decide +kernel
theorem dLi_addNumber_1 : decode cLi_addNumber 1 = .ok (.lconst 0, 1) := by decide +kernel
theorem dLi_addNumber_2 : decode cLi_addNumber 2 = .ok (.lcmp, 1) := by decide +kernel
theorem dLi_addNumber_3 : decode cLi_addNumber 3 = .ok (.ifCond .ge 9, 3) := by decide +kernel
theorem dLi_addNumber_6 : decode cLi_addNumber 6 = .ok (.aload_n 0, 1) := by decide +kernel
theorem dLi_addNumber_7 : decode cLi_addNumber 7 = .ok (.bipush 45, 2) := by decide +kernel
theorem dLi_addNumber_9 : decode cLi_addNumber 9 = .ok (.invokevirtual 28, 3) := by decide +kernel
theorem dLi_addNumber_12 : decode cLi_addNumber 12 = .ok (.lload_n 1, 1) := by decide +kernel
theorem dLi_addNumber_13 : decode cLi_addNumber 13 = .ok (.invokestatic 32, 3) := by decide +kernel
theorem dLi_addNumber_16 : decode cLi_addNumber 16 = .ok (.lstore_n 3, 1) := by decide +kernel
theorem dLi_addNumber_17 : decode cLi_addNumber 17 = .ok (.lconst 1, 1) := by decide +kernel
theorem dLi_addNumber_18 : decode cLi_addNumber 18 = .ok (.lstore 5, 2) := by decide +kernel
theorem dLi_addNumber_20 : decode cLi_addNumber 20 = .ok (.iconst 0, 1) := by decide +kernel
theorem dLi_addNumber_21 : decode cLi_addNumber 21 = .ok (.istore 7, 2) := by decide +kernel
theorem dLi_addNumber_23 : decode cLi_addNumber 23 = .ok (.iload 7, 2) := by decide +kernel
theorem dLi_addNumber_25 : decode cLi_addNumber 25 = .ok (.bipush 18, 2) := by decide +kernel
theorem dLi_addNumber_27 : decode cLi_addNumber 27 = .ok (.if_icmp .ge 35, 3) := by decide +kernel
theorem dLi_addNumber_30 : decode cLi_addNumber 30 = .ok (.lload 5, 2) := by decide +kernel
theorem dLi_addNumber_32 : decode cLi_addNumber 32 = .ok (.lconst 0, 1) := by decide +kernel
theorem dLi_addNumber_33 : decode cLi_addNumber 33 = .ok (.lcmp, 1) := by decide +kernel
theorem dLi_addNumber_34 : decode cLi_addNumber 34 = .ok (.ifCond .le 28, 3) := by decide +kernel
theorem dLi_addNumber_37 : decode cLi_addNumber 37 = .ok (.lload_n 3, 1) := by decide +kernel
theorem dLi_addNumber_38 : decode cLi_addNumber 38 = .ok (.lload 5, 2) := by decide +kernel
theorem dLi_addNumber_40 : decode cLi_addNumber 40 = .ok (.ldiv, 1) := by decide +kernel
theorem dLi_addNumber_41 : decode cLi_addNumber 41 = .ok (.ldc2_w 38, 3) := by decide +kernel
theorem dLi_addNumber_44 : decode cLi_addNumber 44 = .ok (.lcmp, 1) := by decide +kernel
theorem dLi_addNumber_45 : decode cLi_addNumber 45 = .ok (.ifCond .lt 17, 3) := by decide +kernel
theorem dLi_addNumber_48 : decode cLi_addNumber 48 = .ok (.lload 5, 2) := by decide +kernel
theorem dLi_addNumber_50 : decode cLi_addNumber 50 = .ok (.ldc2_w 38, 3) := by decide +kernel
theorem dLi_addNumber_53 : decode cLi_addNumber 53 = .ok (.lmul, 1) := by decide +kernel
theorem dLi_addNumber_54 : decode cLi_addNumber 54 = .ok (.lstore 5, 2) := by decide +kernel
theorem dLi_addNumber_56 : decode cLi_addNumber 56 = .ok (.iinc 7 1, 3) := by decide +kernel
theorem dLi_addNumber_59 : decode cLi_addNumber 59 = .ok (.goto (-36), 3) := by decide +kernel
theorem dLi_addNumber_62 : decode cLi_addNumber 62 = .ok (.lload 5, 2) := by decide +kernel
theorem dLi_addNumber_64 : decode cLi_addNumber 64 = .ok (.lconst 0, 1) := by decide +kernel
theorem dLi_addNumber_65 : decode cLi_addNumber 65 = .ok (.lcmp, 1) := by decide +kernel
theorem dLi_addNumber_66 : decode cLi_addNumber 66 = .ok (.ifCond .le 32, 3) := by decide +kernel
theorem dLi_addNumber_69 : decode cLi_addNumber 69 = .ok (.aload_n 0, 1) := by decide +kernel
theorem dLi_addNumber_70 : decode cLi_addNumber 70 = .ok (.ldc2_w 40, 3) := by decide +kernel
theorem dLi_addNumber_73 : decode cLi_addNumber 73 = .ok (.lload_n 3, 1) := by decide +kernel
theorem dLi_addNumber_74 : decode cLi_addNumber 74 = .ok (.lload 5, 2) := by decide +kernel
theorem dLi_addNumber_76 : decode cLi_addNumber 76 = .ok (.ldiv, 1) := by decide +kernel
theorem dLi_addNumber_77 : decode cLi_addNumber 77 = .ok (.ldc2_w 38, 3) := by decide +kernel
theorem dLi_addNumber_80 : decode cLi_addNumber 80 = .ok (.lrem, 1) := by decide +kernel
theorem dLi_addNumber_81 : decode cLi_addNumber 81 = .ok (.ladd, 1) := by decide +kernel
theorem dLi_addNumber_82 : decode cLi_addNumber 82 = .ok (.l2i, 1) := by decide +kernel
theorem dLi_addNumber_83 : decode cLi_addNumber 83 = .ok (.i2c, 1) := by decide +kernel
theorem dLi_addNumber_84 : decode cLi_addNumber 84 = .ok (.invokevirtual 28, 3) := by decide +kernel
theorem dLi_addNumber_87 : decode cLi_addNumber 87 = .ok (.lload 5, 2) := by decide +kernel
theorem dLi_addNumber_89 : decode cLi_addNumber 89 = .ok (.ldc2_w 38, 3) := by decide +kernel
theorem dLi_addNumber_92 : decode cLi_addNumber 92 = .ok (.ldiv, 1) := by decide +kernel
theorem dLi_addNumber_93 : decode cLi_addNumber 93 = .ok (.lstore 5, 2) := by decide +kernel
theorem dLi_addNumber_95 : decode cLi_addNumber 95 = .ok (.goto (-33), 3) := by decide +kernel
theorem dLi_addNumber_98 : decode cLi_addNumber 98 = .ok (.return_, 1) := by decide +kernel
-- FootprintRules$Line.addNumber(J)V
abbrev w_Li_addNumber (ad : Nat → Nat → Nat) (a_this : Nat) (a_units : Nat) (k_units : ClassId) (v_this_length : Int32) (v_units : Nat → Int32) : va_W := [(a_this, .inr (7, [.ref a_units, .int v_this_length])), (a_units, .inl (k_units, 4096, .inl v_units))]
def P_Li_addNumber_62  (post : Int32 → (Nat → Int32) → Prop) : Nat → Int64 → Int64 → Int32 → (Nat → Int32) → Prop
  | 0, _, _, _, _ => False
  | n + 1, y3, y5, u_this_length, u_units => ((y5 ≤ 0 → post u_this_length u_units) ∧ (¬ y5 ≤ 0 → ¬ y5 = 0 ∧ P_Li_addUnit ((((48 + ((y3 / y5) - (y3 / y5) / 10 * 10)).toInt32).toUInt32 % 65536).toInt32) u_this_length u_units (fun (u3 : Int32) (u4 : Nat → Int32) => ∀ x5 : Int64, x5 = y5 / 10 → P_Li_addNumber_62 post n y3 x5 u3 u4)))
set_option maxHeartbeats 4000000 in
set_option maxRecDepth 100000 in
theorem w_Li_addNumber_62 (l : Launch) {p : Program} {e : Env} {s : State} {m : MethodId} {args : Array Value} {below : List Frame} {meth : Method} {c : Code} {dC : Nat → ClassId} {dI : Nat → Nat → Nat} {ad : Nat → Nat → Nat} {A : Nat → Prop} (C0 : zC p s m args meth c cLi_addNumber 8 RLi zT none A) (hE : zE ad A s) (a_this : Nat) (a_units : Nat) (k_units : ClassId) (p1 : Int64) (v_this_length : Int32) (v_units : Nat → Int32) (post : Int32 → (Nat → Int32) → Prop) (hK : va_K (dC, dI) vwCl [(k_units, .char)] s) : ∀ (n : Nat), ∀ (y3 : Int64) (y5 : Int64) (u_this_length : Int32) (u_units : Nat → Int32) (H : Heap) (locs : List Loc), P_Li_addNumber_62 post n y3 y5 u_this_length u_units → va_P (dC, dI) vwCl (w_Li_addNumber ad a_this a_units k_units u_this_length u_units) H → va_D A (w_Li_addNumber ad a_this a_units k_units u_this_length u_units) → va_S A s.heap H locs → ∀ ls : Array Slot, lv_has ls 8 [(0, .ref a_this), (3, .long y3), (5, .long y5)] → W p l e (headSpec wsLi_addNumber { frames := 1, cells := 0, slots := 0, locals := 21 }).room s m args below meth c H locs 0 0 (MQ below (va_Qv (fun (u : Int32 × (Nat → Int32)) => post u.1 u.2) (zB (dC, dI) A (fun (u : Int32 × (Nat → Int32)) => (w_Li_addNumber ad a_this a_units k_units u.1 u.2))) A) args s 0 0 A) (F0 m 62 ls []) := by
  obtain ⟨hx, hb, hr, hml, hown, hts, hlocks, hA⟩ := id C0
  intro n
  induction n with
  | zero =>
    intro y3 y5 u_this_length u_units H locs h
    exact False.elim h
  | succ n ih =>
    intro y3 y5 u_this_length u_units H locs h hP hD hS ls hl
    rw [P_Li_addNumber_62] at h
    refine lv_lload hx hb dLi_addNumber_62 (lv_at hl 2 rfl) ?_
    refine lv_lconst (v := 0) hx hb dLi_addNumber_64 (by decide) ?_
    refine zz_lcmp_le (tgt := 98) hx hb dLi_addNumber_65 dLi_addNumber_66 (by decide) ?_ ?_
    · intro c1
      replace h := h.1 c1
      exact W.vret hx hb hr (fun t ht hW => ⟨⟨(u_this_length, u_units), rfl, h, by rw [ht]; exact hP, hD⟩, hS.F ht⟩) hS.2.2 dLi_addNumber_98
    · intro c1
      replace h := h.2 c1
      refine lv_aload_n hx hb dLi_addNumber_69 rfl (lv_at hl 0 rfl) ?_
      refine lv_ldc2 (own := RLi) (index := 40) (v := 48) hx hb hown (hts _ zw_893) dLi_addNumber_70 ?_
      refine lv_lload_n hx hb dLi_addNumber_73 rfl (lv_at hl 1 rfl) ?_
      refine lv_lload hx hb dLi_addNumber_74 (lv_at hl 2 rfl) ?_
      obtain ⟨hn2, h⟩ := h
      refine lv_ldiv hx hb dLi_addNumber_76 hn2 ?_
      refine lv_ldc2 (own := RLi) (index := 38) (v := 10) hx hb hown (hts _ zw_892) dLi_addNumber_77 ?_
      refine lv_lrem hx hb dLi_addNumber_80 (by decide) ?_
      refine lv_ladd hx hb dLi_addNumber_81 ?_
      refine lv_l2i hx hb dLi_addNumber_82 rfl ?_
      refine lv_i2c hx hb dLi_addNumber_83 rfl ?_
      refine zcall_v hP hD hS hA [0, 1] [] (va_runV (As := [.int ((((48 + ((y3 / y5) - (y3 / y5) / 10 * 10)).toInt32).toUInt32 % 65536).toInt32)]) (rest := []) ⟨hx, hb, hml, hown, hts⟩ (c_Li_addUnit l dC dI ad a_this a_units k_units _ ((((48 + ((y3 / y5) - (y3 / y5) / 10 * 10)).toInt32).toUInt32 % 65536).toInt32) u_this_length u_units _ h) ⟨callB_of 1 hts (zgood zc_Li_addUnit) rfl rfl rfl (hts _ zw_106) (hts _ zw_888) (by decide +kernel) ⟨Nat.le_of_ble_eq_true rfl, Nat.le_of_ble_eq_true rfl⟩, (hts _ zw_882), (hts _ zw_52)⟩ (zpreV hE hK hP hD hS hA [0, 1] [0] (by rfl) (by rfl) (by decide) (ci := 7) (q0 := 0) rfl (by rfl)) rfl rfl hl.1 rfl (lv_room (Nat.le_of_ble_eq_true rfl)) dLi_addNumber_84 ⟨Nat.le_of_ble_eq_true rfl, Nat.le_of_ble_eq_true rfl⟩) (by rfl) (by rfl) (by decide) (by decide) (fun u H locs h hP hD hS => ?_)
      obtain ⟨u3, u4⟩ := u
      try dsimp only at h
      have hP := hP.sub (ws' := (w_Li_addNumber ad a_this a_units k_units u3 u4)) [0, 1] rfl
      have hD := hD.sub (ws' := (w_Li_addNumber ad a_this a_units k_units u3 u4)) [0, 1] (by decide) rfl
      refine lv_lload hx hb dLi_addNumber_87 (lv_at hl 2 rfl) ?_
      refine lv_ldc2 (own := RLi) (index := 38) (v := 10) hx hb hown (hts _ zw_892) dLi_addNumber_89 ?_
      refine lv_ldiv hx hb dLi_addNumber_92 (by decide) ?_
      refine lv_topl (fun x5 ex5 => ?_)
      replace h := h x5 ex5
      refine lv_lstore (lv' := [(5, .long x5), (0, .ref a_this), (3, .long y3)]) hx hb dLi_addNumber_93 hl (by decide) rfl (fun ls hl => ?_)
      refine lv_goto (tgt := 62) hx hb dLi_addNumber_95 (by decide) ?_
      exact ih y3 x5 u3 u4 _ _ h hP hD hS ls (lv_sub hl [1, 2, 0] rfl)
def P_Li_addNumber_23  (post : Int32 → (Nat → Int32) → Prop) : Nat → Int64 → Int64 → Int32 → Int32 → (Nat → Int32) → Prop
  | 0, _, _, _, _, _ => False
  | n + 1, y3, y5, y7, u_this_length, u_units => ((18 ≤ y7 → ∃ n2, P_Li_addNumber_62 post n2 y3 y5 u_this_length u_units) ∧ (¬ 18 ≤ y7 → ((y5 ≤ 0 → ∃ n4, P_Li_addNumber_62 post n4 y3 y5 u_this_length u_units) ∧ (¬ y5 ≤ 0 → ¬ y5 = 0 ∧ (((y3 / y5) < 10 → ∃ n7, P_Li_addNumber_62 post n7 y3 y5 u_this_length u_units) ∧ (¬ (y3 / y5) < 10 → ∀ x8 : Int64, x8 = y5 * 10 → ∀ x9 : Int32, x9 = y7 + 1 → P_Li_addNumber_23 post n y3 x8 x9 u_this_length u_units))))))
set_option maxHeartbeats 4000000 in
set_option maxRecDepth 100000 in
theorem w_Li_addNumber_23 (l : Launch) {p : Program} {e : Env} {s : State} {m : MethodId} {args : Array Value} {below : List Frame} {meth : Method} {c : Code} {dC : Nat → ClassId} {dI : Nat → Nat → Nat} {ad : Nat → Nat → Nat} {A : Nat → Prop} (C0 : zC p s m args meth c cLi_addNumber 8 RLi zT none A) (hE : zE ad A s) (a_this : Nat) (a_units : Nat) (k_units : ClassId) (p1 : Int64) (v_this_length : Int32) (v_units : Nat → Int32) (post : Int32 → (Nat → Int32) → Prop) (hK : va_K (dC, dI) vwCl [(k_units, .char)] s) : ∀ (n : Nat), ∀ (y3 : Int64) (y5 : Int64) (y7 : Int32) (u_this_length : Int32) (u_units : Nat → Int32) (H : Heap) (locs : List Loc), P_Li_addNumber_23 post n y3 y5 y7 u_this_length u_units → va_P (dC, dI) vwCl (w_Li_addNumber ad a_this a_units k_units u_this_length u_units) H → va_D A (w_Li_addNumber ad a_this a_units k_units u_this_length u_units) → va_S A s.heap H locs → ∀ ls : Array Slot, lv_has ls 8 [(0, .ref a_this), (3, .long y3), (5, .long y5), (7, .int y7)] → W p l e (headSpec wsLi_addNumber { frames := 1, cells := 0, slots := 0, locals := 21 }).room s m args below meth c H locs 0 0 (MQ below (va_Qv (fun (u : Int32 × (Nat → Int32)) => post u.1 u.2) (zB (dC, dI) A (fun (u : Int32 × (Nat → Int32)) => (w_Li_addNumber ad a_this a_units k_units u.1 u.2))) A) args s 0 0 A) (F0 m 23 ls []) := by
  obtain ⟨hx, hb, hr, hml, hown, hts, hlocks, hA⟩ := id C0
  intro n
  induction n with
  | zero =>
    intro y3 y5 y7 u_this_length u_units H locs h
    exact False.elim h
  | succ n ih =>
    intro y3 y5 y7 u_this_length u_units H locs h hP hD hS ls hl
    rw [P_Li_addNumber_23] at h
    refine lv_iload hx hb dLi_addNumber_23 (lv_at hl 3 rfl) ?_
    refine lv_bipush (v := 18) hx hb dLi_addNumber_25 (by decide) ?_
    refine lv_icmp_ge (tgt := 62) hx hb dLi_addNumber_27 (by decide) ?_ ?_
    · intro c1
      replace h := h.1 c1
      obtain ⟨n2, h⟩ := h
      exact w_Li_addNumber_62 l C0 hE a_this a_units k_units p1 v_this_length v_units post hK n2 y3 y5 u_this_length u_units _ _ h hP hD hS ls (lv_sub hl [0, 1, 2] rfl)
    · intro c1
      replace h := h.2 c1
      refine lv_lload hx hb dLi_addNumber_30 (lv_at hl 2 rfl) ?_
      refine lv_lconst (v := 0) hx hb dLi_addNumber_32 (by decide) ?_
      refine zz_lcmp_le (tgt := 62) hx hb dLi_addNumber_33 dLi_addNumber_34 (by decide) ?_ ?_
      · intro c3
        replace h := h.1 c3
        obtain ⟨n4, h⟩ := h
        exact w_Li_addNumber_62 l C0 hE a_this a_units k_units p1 v_this_length v_units post hK n4 y3 y5 u_this_length u_units _ _ h hP hD hS ls (lv_sub hl [0, 1, 2] rfl)
      · intro c3
        replace h := h.2 c3
        refine lv_lload_n hx hb dLi_addNumber_37 rfl (lv_at hl 1 rfl) ?_
        refine lv_lload hx hb dLi_addNumber_38 (lv_at hl 2 rfl) ?_
        obtain ⟨hn5, h⟩ := h
        refine lv_ldiv hx hb dLi_addNumber_40 hn5 ?_
        refine lv_ldc2 (own := RLi) (index := 38) (v := 10) hx hb hown (hts _ zw_892) dLi_addNumber_41 ?_
        refine zz_lcmp_lt (tgt := 62) hx hb dLi_addNumber_44 dLi_addNumber_45 (by decide) ?_ ?_
        · intro c6
          replace h := h.1 c6
          obtain ⟨n7, h⟩ := h
          exact w_Li_addNumber_62 l C0 hE a_this a_units k_units p1 v_this_length v_units post hK n7 y3 y5 u_this_length u_units _ _ h hP hD hS ls (lv_sub hl [0, 1, 2] rfl)
        · intro c6
          replace h := h.2 c6
          refine lv_lload hx hb dLi_addNumber_48 (lv_at hl 2 rfl) ?_
          refine lv_ldc2 (own := RLi) (index := 38) (v := 10) hx hb hown (hts _ zw_892) dLi_addNumber_50 ?_
          refine lv_lmul hx hb dLi_addNumber_53 ?_
          refine lv_topl (fun x8 ex8 => ?_)
          replace h := h x8 ex8
          refine lv_lstore (lv' := [(5, .long x8), (0, .ref a_this), (3, .long y3), (7, .int y7)]) hx hb dLi_addNumber_54 hl (by decide) rfl (fun ls hl => ?_)
          obtain ⟨x9, ex9⟩ : ∃ y : Int32, y = y7 + 1 := ⟨_, rfl⟩
          replace h := h x9 ex9
          refine lv_iinc (v := x9) (lv' := [(7, .int x9), (5, .long x8), (0, .ref a_this), (3, .long y3)]) hx hb dLi_addNumber_56 hl (k := 3) rfl (by rw [ex9]; rfl) (by decide) rfl (fun ls hl => ?_)
          refine lv_goto (tgt := 23) hx hb dLi_addNumber_59 (by decide) ?_
          exact ih y3 x8 x9 u_this_length u_units _ _ h hP hD hS ls (lv_sub hl [2, 3, 1, 0] rfl)
def P_Li_addNumber_12 (p1 : Int64) (post : Int32 → (Nat → Int32) → Prop) (u_this_length : Int32) (u_units : Nat → Int32) : Prop := P_JM_abs p1 (fun (r1 : Int64) => ∃ n2, P_Li_addNumber_23 post n2 r1 1 0 u_this_length u_units)
set_option maxHeartbeats 4000000 in
set_option maxRecDepth 100000 in
theorem w_Li_addNumber_12 (l : Launch) {p : Program} {e : Env} {s : State} {m : MethodId} {args : Array Value} {below : List Frame} {meth : Method} {c : Code} {dC : Nat → ClassId} {dI : Nat → Nat → Nat} {ad : Nat → Nat → Nat} {A : Nat → Prop} (C0 : zC p s m args meth c cLi_addNumber 8 RLi zT none A) (hE : zE ad A s) (a_this : Nat) (a_units : Nat) (k_units : ClassId) (p1 : Int64) (v_this_length : Int32) (v_units : Nat → Int32) (post : Int32 → (Nat → Int32) → Prop) (hK : va_K (dC, dI) vwCl [(k_units, .char)] s) : ∀ (u_this_length : Int32) (u_units : Nat → Int32) (H : Heap) (locs : List Loc), P_Li_addNumber_12 p1 post u_this_length u_units → va_P (dC, dI) vwCl (w_Li_addNumber ad a_this a_units k_units u_this_length u_units) H → va_D A (w_Li_addNumber ad a_this a_units k_units u_this_length u_units) → va_S A s.heap H locs → ∀ ls : Array Slot, lv_has ls 8 [(0, .ref a_this), (1, .long p1)] → W p l e (headSpec wsLi_addNumber { frames := 1, cells := 0, slots := 0, locals := 21 }).room s m args below meth c H locs 0 0 (MQ below (va_Qv (fun (u : Int32 × (Nat → Int32)) => post u.1 u.2) (zB (dC, dI) A (fun (u : Int32 × (Nat → Int32)) => (w_Li_addNumber ad a_this a_units k_units u.1 u.2))) A) args s 0 0 A) (F0 m 12 ls []) := by
  obtain ⟨hx, hb, hr, hml, hown, hts, hlocks, hA⟩ := id C0
  intro u_this_length u_units H locs h hP hD hS ls hl
  unfold P_Li_addNumber_12 at h
  refine lv_lload_n hx hb dLi_addNumber_12 rfl (lv_at hl 1 rfl) ?_
  refine zcall_l hP hD hS hA [] [0, 1] (va_runS (As := [.long p1]) (rest := []) ⟨hx, hb, hml, hown, hts⟩ (c_JM_abs l dC dI ad _ p1 _ h) ⟨callB_of 1 hts (zgood zc_JM_abs) rfl rfl rfl (hts _ zw_119) (hts _ zw_889) (by decide +kernel) ⟨Nat.le_of_ble_eq_true rfl, Nat.le_of_ble_eq_true rfl⟩, (hts _ zw_890)⟩ (zpreS hE hK hP hD hS hA [] [] (by rfl) (by rfl) (by decide)) rfl rfl hl.1 rfl (lv_room (Nat.le_of_ble_eq_true rfl)) dLi_addNumber_13 ⟨Nat.le_of_ble_eq_true rfl, Nat.le_of_ble_eq_true rfl⟩) (by rfl) (by rfl) (by decide) (by decide) (fun r1 u H locs h hP hD hS => ?_)
  try dsimp only at h
  have hP := hP.sub (ws' := (w_Li_addNumber ad a_this a_units k_units u_this_length u_units)) [0, 1] rfl
  have hD := hD.sub (ws' := (w_Li_addNumber ad a_this a_units k_units u_this_length u_units)) [0, 1] (by decide) rfl
  refine lv_lstore_n (lv' := [(3, .long r1), (0, .ref a_this), (1, .long p1)]) hx hb dLi_addNumber_16 rfl hl (by decide) rfl (fun ls hl => ?_)
  refine lv_lconst (v := 1) hx hb dLi_addNumber_17 (by decide) ?_
  refine lv_lstore (lv' := [(5, .long 1), (3, .long r1), (0, .ref a_this), (1, .long p1)]) hx hb dLi_addNumber_18 hl (by decide) rfl (fun ls hl => ?_)
  refine lv_iconst (v := 0) hx hb dLi_addNumber_20 (by decide) ?_
  refine lv_istore (lv' := [(7, .int 0), (5, .long 1), (3, .long r1), (0, .ref a_this), (1, .long p1)]) hx hb dLi_addNumber_21 hl (by decide) rfl (fun ls hl => ?_)
  obtain ⟨n2, h⟩ := h
  exact w_Li_addNumber_23 l C0 hE a_this a_units k_units p1 v_this_length v_units post hK n2 r1 1 0 u_this_length u_units _ _ h hP hD hS ls (lv_sub hl [3, 2, 1, 0] rfl)
def P_Li_addNumber (p1 : Int64) (v_this_length : Int32) (v_units : Nat → Int32) (post : Int32 → (Nat → Int32) → Prop) : Prop := ((0 ≤ p1 → P_Li_addNumber_12 p1 post v_this_length v_units) ∧ (¬ 0 ≤ p1 → P_Li_addUnit 45 v_this_length v_units (fun (u2 : Int32) (u3 : Nat → Int32) => P_Li_addNumber_12 p1 post u2 u3)))
set_option maxHeartbeats 4000000 in
set_option maxRecDepth 100000 in
theorem c_Li_addNumber (l : Launch) (dC : Nat → ClassId) (dI : Nat → Nat → Nat) (ad : Nat → Nat → Nat) (a_this : Nat) (a_units : Nat) (k_units : ClassId) (sz : Nat) (p1 : Int64) (v_this_length : Int32) (v_units : Nat → Int32) (post : Int32 → (Nat → Int32) → Prop) (h : P_Li_addNumber p1 v_this_length v_units post) : zMv l yLi_addNumber wsLi_addNumber { frames := 1, cells := 0, slots := 0, locals := 21 } (dC, dI) ad [.ref a_this, .long p1] (w_Li_addNumber ad a_this a_units k_units v_this_length v_units) [(k_units, .char)] sz (fun (u : Int32 × (Nat → Int32)) => post u.1 u.2) (fun (u : Int32 × (Nat → Int32)) => (w_Li_addNumber ad a_this a_units k_units u.1 u.2)) 0 0 := by
  refine Met.ofW (cc := cLi_addNumber) (maxL := 8) (ret := none) (by decide +kernel) rfl ?_
  intro p e s m args below meth c s₁ B hml hv
  obtain ⟨rfl, hsz, hP, hK, hD0, hE⟩ := hv
  have hx := B.exec
  have hb := B.bytes
  have hr := B.returns
  have hts0 := atoms_spec (ws := wsLi_addNumber) B.pre
  have hts := fun w h => hts0 w (List.mem_cons_of_mem _ h)
  have hown : s.vm.findClass RLi = some m.cls := findClass_of_methodNamed B.named
  have hlocks := B.notSynchronized
  subst hsz
  have hD := hD0.self (sz := s.heap.size)
  generalize hAe : va_A (w_Li_addNumber ad a_this a_units k_units v_this_length v_units) s.heap.size = A at hD hE ⊢
  have hA : ∀ q : Nat, s.heap.size ≤ q → A q := fun q h => by rw [← hAe]; exact Or.inr h
  have C0 := zC.mk hx hb hr hml hown hts hlocks hA
  have hS : va_S A s.heap s.heap [] := va_S.rf
  have hl := lv_entry ([.ref a_this, .long p1]) (n := 8) (Nat.le_of_ble_eq_true rfl)
  rw [lg_entry_eq]
  generalize (lg_sl ([.ref a_this, .long p1]) ++ List.replicate (8 - (lg_sl ([.ref a_this, .long p1])).length) Slot.unset).toArray = ls at hl ⊢
  have hl : lv_has ls 8 [(0, .ref a_this), (1, .long p1)] := hl
  unfold P_Li_addNumber at h
  refine lv_lload_n hx hb dLi_addNumber_0 rfl (lv_at hl 1 rfl) ?_
  refine lv_lconst (v := 0) hx hb dLi_addNumber_1 (by decide) ?_
  refine zz_lcmp_ge (tgt := 12) hx hb dLi_addNumber_2 dLi_addNumber_3 (by decide) ?_ ?_
  · intro c1
    replace h := h.1 c1
    exact w_Li_addNumber_12 l C0 hE a_this a_units k_units p1 v_this_length v_units post hK v_this_length v_units _ _ h hP hD hS ls (lv_sub hl [0, 1] rfl)
  · intro c1
    replace h := h.2 c1
    refine lv_aload_n hx hb dLi_addNumber_6 rfl (lv_at hl 0 rfl) ?_
    refine lv_bipush (v := 45) hx hb dLi_addNumber_7 (by decide) ?_
    refine zcall_v hP hD hS hA [0, 1] [] (va_runV (As := [.int 45]) (rest := []) ⟨hx, hb, hml, hown, hts⟩ (c_Li_addUnit l dC dI ad a_this a_units k_units _ 45 v_this_length v_units _ h) ⟨callB_of 1 hts (zgood zc_Li_addUnit) rfl rfl rfl (hts _ zw_106) (hts _ zw_888) (by decide +kernel) ⟨Nat.le_of_ble_eq_true rfl, Nat.le_of_ble_eq_true rfl⟩, (hts _ zw_882), (hts _ zw_52)⟩ (zpreV hE hK hP hD hS hA [0, 1] [0] (by rfl) (by rfl) (by decide) (ci := 7) (q0 := 0) rfl (by rfl)) rfl rfl hl.1 rfl (lv_room (Nat.le_of_ble_eq_true rfl)) dLi_addNumber_9 ⟨Nat.le_of_ble_eq_true rfl, Nat.le_of_ble_eq_true rfl⟩) (by rfl) (by rfl) (by decide) (by decide) (fun u H locs h hP hD hS => ?_)
    obtain ⟨u2, u3⟩ := u
    try dsimp only at h
    have hP := hP.sub (ws' := (w_Li_addNumber ad a_this a_units k_units u2 u3)) [0, 1] rfl
    have hD := hD.sub (ws' := (w_Li_addNumber ad a_this a_units k_units u2 u3)) [0, 1] (by decide) rfl
    exact w_Li_addNumber_12 l C0 hE a_this a_units k_units p1 v_this_length v_units post hK u2 u3 _ _ h hP hD hS ls (lv_sub hl [0, 1] rfl)
abbrev yFp_begin : MethodName := ⟨"FootprintRules$Footprint", "begin", "(LFootprintRules$Family;IJ)V"⟩
abbrev cFp_begin : ByteArray := prog_5_method_2_code
abbrev wsFp_begin : List Cond := .code yFp_begin cFp_begin 5 none :: zT
set_option maxRecDepth 100000 in
theorem zc_Fp_begin : Cond.code yFp_begin cFp_begin 5 none ∈ zT := zm 707 (by rfl) (by rfl)
theorem dFp_begin_0 : decode cFp_begin 0 = .ok (.aload_n 0, 1) := by decide +kernel
theorem dFp_begin_1 : decode cFp_begin 1 = .ok (.iconst 0, 1) := by decide +kernel
theorem dFp_begin_2 : decode cFp_begin 2 = .ok (.putfield 42, 3) := by decide +kernel
theorem dFp_begin_5 : decode cFp_begin 5 = .ok (.aload_n 0, 1) := by decide +kernel
theorem dFp_begin_6 : decode cFp_begin 6 = .ok (.iconst 0, 1) := by decide +kernel
theorem dFp_begin_7 : decode cFp_begin 7 = .ok (.putfield 46, 3) := by decide +kernel
theorem dFp_begin_10 : decode cFp_begin 10 = .ok (.aload_n 0, 1) := by decide +kernel
theorem dFp_begin_11 : decode cFp_begin 11 = .ok (.iconst 0, 1) := by decide +kernel
theorem dFp_begin_12 : decode cFp_begin 12 = .ok (.putfield 49, 3) := by decide +kernel
theorem dFp_begin_15 : decode cFp_begin 15 = .ok (.aload_n 0, 1) := by decide +kernel
theorem dFp_begin_16 : decode cFp_begin 16 = .ok (.iconst (-1), 1) := by decide +kernel
theorem dFp_begin_17 : decode cFp_begin 17 = .ok (.putfield 53, 3) := by decide +kernel
theorem dFp_begin_20 : decode cFp_begin 20 = .ok (.aload_n 0, 1) := by decide +kernel
theorem dFp_begin_21 : decode cFp_begin 21 = .ok (.aload_n 1, 1) := by decide +kernel
theorem dFp_begin_22 : decode cFp_begin 22 = .ok (.putfield 18, 3) := by decide +kernel
theorem dFp_begin_25 : decode cFp_begin 25 = .ok (.aload_n 0, 1) := by decide +kernel
theorem dFp_begin_26 : decode cFp_begin 26 = .ok (.iload_n 2, 1) := by decide +kernel
theorem dFp_begin_27 : decode cFp_begin 27 = .ok (.putfield 56, 3) := by decide +kernel
theorem dFp_begin_30 : decode cFp_begin 30 = .ok (.aload_n 0, 1) := by decide +kernel
theorem dFp_begin_31 : decode cFp_begin 31 = .ok (.lload_n 3, 1) := by decide +kernel
theorem dFp_begin_32 : decode cFp_begin 32 = .ok (.putfield 59, 3) := by decide +kernel
theorem dFp_begin_35 : decode cFp_begin 35 = .ok (.return_, 1) := by decide +kernel
-- FootprintRules$Footprint.begin(LFootprintRules$Family;IJ)V
abbrev w_Fp_begin (ad : Nat → Nat → Nat) (a_this : Nat) (a_cells : Nat) (a_family : Nat) (a_yard : Nat) (a_columns : Nat) (a_rows : Nat) (a_line : Nat) (a_p1 : Nat)  (v_this_atHand : Int32) (v_this_count : Int32) (v_this_thermal : Int32) (v_this_density : Int32) (v_this_outerHigh : Int64) (v_this_pasteLeft : Int64) (v_this_pasteLow : Int64) (v_this_nameLength : Int32) (v_this_isWritten : Int32) : va_W := [(a_this, .inr (6, [.int v_this_atHand, .ref a_cells, .int v_this_count, .int v_this_thermal, .ref a_family, .int v_this_density, .long v_this_outerHigh, .ref a_yard, .ref a_columns, .ref a_rows, .long v_this_pasteLeft, .long v_this_pasteLow, .ref a_line, .int v_this_nameLength, .int v_this_isWritten]))]
def P_Fp_begin (p2 : Int32) (p3 : Int64) (post : Int32 → Int32 → Int32 → Int32 → Int64 → Int32 → Prop) : Prop := post 0 0 (-1) p2 p3 0
set_option maxHeartbeats 4000000 in
set_option maxRecDepth 100000 in
theorem c_Fp_begin (l : Launch) (dC : Nat → ClassId) (dI : Nat → Nat → Nat) (ad : Nat → Nat → Nat) (a_this : Nat) (a_cells : Nat) (a_family : Nat) (a_yard : Nat) (a_columns : Nat) (a_rows : Nat) (a_line : Nat) (a_p1 : Nat)  (sz : Nat) (p2 : Int32) (p3 : Int64) (v_this_atHand : Int32) (v_this_count : Int32) (v_this_thermal : Int32) (v_this_density : Int32) (v_this_outerHigh : Int64) (v_this_pasteLeft : Int64) (v_this_pasteLow : Int64) (v_this_nameLength : Int32) (v_this_isWritten : Int32) (post : Int32 → Int32 → Int32 → Int32 → Int64 → Int32 → Prop) (h : P_Fp_begin p2 p3 post) : zMv l yFp_begin wsFp_begin { frames := 0, cells := 0, slots := 0, locals := 0 } (dC, dI) ad [.ref a_this, .ref a_p1, .int p2, .long p3] (w_Fp_begin ad a_this a_cells a_family a_yard a_columns a_rows a_line a_p1 v_this_atHand v_this_count v_this_thermal v_this_density v_this_outerHigh v_this_pasteLeft v_this_pasteLow v_this_nameLength v_this_isWritten) [] sz (fun (u : Int32 × Int32 × Int32 × Int32 × Int64 × Int32) => post u.1 u.2.1 u.2.2.1 u.2.2.2.1 u.2.2.2.2.1 u.2.2.2.2.2) (fun (u : Int32 × Int32 × Int32 × Int32 × Int64 × Int32) => (w_Fp_begin ad a_this a_cells a_p1 a_yard a_columns a_rows a_line a_p1 u.1 u.2.1 u.2.2.1 u.2.2.2.1 u.2.2.2.2.1 v_this_pasteLeft v_this_pasteLow v_this_nameLength u.2.2.2.2.2)) 0 0 := by
  refine Met.ofW (cc := cFp_begin) (maxL := 5) (ret := none) (by decide +kernel) rfl ?_
  intro p e s m args below meth c s₁ B hml hv
  obtain ⟨rfl, hsz, hP, hK, hD0, hE⟩ := hv
  have hx := B.exec
  have hb := B.bytes
  have hr := B.returns
  have hts0 := atoms_spec (ws := wsFp_begin) B.pre
  have hts := fun w h => hts0 w (List.mem_cons_of_mem _ h)
  have hown : s.vm.findClass RFp = some m.cls := findClass_of_methodNamed B.named
  have hlocks := B.notSynchronized
  subst hsz
  have hD := hD0.self (sz := s.heap.size)
  generalize hAe : va_A (w_Fp_begin ad a_this a_cells a_family a_yard a_columns a_rows a_line a_p1 v_this_atHand v_this_count v_this_thermal v_this_density v_this_outerHigh v_this_pasteLeft v_this_pasteLow v_this_nameLength v_this_isWritten) s.heap.size = A at hD hE ⊢
  have hA : ∀ q : Nat, s.heap.size ≤ q → A q := fun q h => by rw [← hAe]; exact Or.inr h
  have C0 := zC.mk hx hb hr hml hown hts hlocks hA
  have hS : va_S A s.heap s.heap [] := va_S.rf
  have hl := lv_entry ([.ref a_this, .ref a_p1, .int p2, .long p3]) (n := 5) (Nat.le_of_ble_eq_true rfl)
  rw [lg_entry_eq]
  generalize (lg_sl ([.ref a_this, .ref a_p1, .int p2, .long p3]) ++ List.replicate (5 - (lg_sl ([.ref a_this, .ref a_p1, .int p2, .long p3])).length) Slot.unset).toArray = ls at hl ⊢
  have hl : lv_has ls 5 [(0, .ref a_this), (1, .ref a_p1), (2, .int p2), (3, .long p3)] := hl
  unfold P_Fp_begin at h
  refine lv_aload_n hx hb dFp_begin_0 rfl (lv_at hl 0 rfl) ?_
  refine lv_iconst (v := 0) hx hb dFp_begin_1 (by decide) ?_
  refine va_put (D := (dC, dI)) (ci := 6) (v := .int 0) (ty := .boolean) (C := RFp) (T := TFp) (N := 15) hx hb hts inZ_Fp tyFp tyFp_ok nmFp hown hK hP hD hS 0 rfl rfl 0 (by decide) (hts _ zw_278) (fun _ h9 => h9) rfl (by decide +kernel) rfl rfl (Nat.le_of_ble_eq_true rfl) dFp_begin_2 (fun H locs hP hD hS => ?_)
  have hP : va_P (dC, dI) vwCl (w_Fp_begin ad a_this a_cells a_family a_yard a_columns a_rows a_line a_p1 0 v_this_count v_this_thermal v_this_density v_this_outerHigh v_this_pasteLeft v_this_pasteLow v_this_nameLength v_this_isWritten) H := hP
  have hD : va_D A (w_Fp_begin ad a_this a_cells a_family a_yard a_columns a_rows a_line a_p1 0 v_this_count v_this_thermal v_this_density v_this_outerHigh v_this_pasteLeft v_this_pasteLow v_this_nameLength v_this_isWritten) := hD
  refine lv_aload_n hx hb dFp_begin_5 rfl (lv_at hl 0 rfl) ?_
  refine lv_iconst (v := 0) hx hb dFp_begin_6 (by decide) ?_
  refine va_put (D := (dC, dI)) (ci := 6) (v := .int 0) (ty := .boolean) (C := RFp) (T := TFp) (N := 15) hx hb hts inZ_Fp tyFp tyFp_ok nmFp hown hK hP hD hS 0 rfl rfl 14 (by decide) (hts _ zw_299) (fun _ h9 => h9) rfl (by decide +kernel) rfl rfl (Nat.le_of_ble_eq_true rfl) dFp_begin_7 (fun H locs hP hD hS => ?_)
  have hP : va_P (dC, dI) vwCl (w_Fp_begin ad a_this a_cells a_family a_yard a_columns a_rows a_line a_p1 0 v_this_count v_this_thermal v_this_density v_this_outerHigh v_this_pasteLeft v_this_pasteLow v_this_nameLength 0) H := hP
  have hD : va_D A (w_Fp_begin ad a_this a_cells a_family a_yard a_columns a_rows a_line a_p1 0 v_this_count v_this_thermal v_this_density v_this_outerHigh v_this_pasteLeft v_this_pasteLow v_this_nameLength 0) := hD
  refine lv_aload_n hx hb dFp_begin_10 rfl (lv_at hl 0 rfl) ?_
  refine lv_iconst (v := 0) hx hb dFp_begin_11 (by decide) ?_
  refine va_put (D := (dC, dI)) (ci := 6) (v := .int 0) (ty := .int) (C := RFp) (T := TFp) (N := 15) hx hb hts inZ_Fp tyFp tyFp_ok nmFp hown hK hP hD hS 0 rfl rfl 2 (by decide) (hts _ zw_282) (fun _ h9 => h9) rfl (by decide +kernel) rfl rfl (Nat.le_of_ble_eq_true rfl) dFp_begin_12 (fun H locs hP hD hS => ?_)
  have hP : va_P (dC, dI) vwCl (w_Fp_begin ad a_this a_cells a_family a_yard a_columns a_rows a_line a_p1 0 0 v_this_thermal v_this_density v_this_outerHigh v_this_pasteLeft v_this_pasteLow v_this_nameLength 0) H := hP
  have hD : va_D A (w_Fp_begin ad a_this a_cells a_family a_yard a_columns a_rows a_line a_p1 0 0 v_this_thermal v_this_density v_this_outerHigh v_this_pasteLeft v_this_pasteLow v_this_nameLength 0) := hD
  refine lv_aload_n hx hb dFp_begin_15 rfl (lv_at hl 0 rfl) ?_
  refine lv_iconst (v := (-1)) hx hb dFp_begin_16 (by decide) ?_
  refine va_put (D := (dC, dI)) (ci := 6) (v := .int (-1)) (ty := .int) (C := RFp) (T := TFp) (N := 15) hx hb hts inZ_Fp tyFp tyFp_ok nmFp hown hK hP hD hS 0 rfl rfl 3 (by decide) (hts _ zw_286) (fun _ h9 => h9) rfl (by decide +kernel) rfl rfl (Nat.le_of_ble_eq_true rfl) dFp_begin_17 (fun H locs hP hD hS => ?_)
  have hP : va_P (dC, dI) vwCl (w_Fp_begin ad a_this a_cells a_family a_yard a_columns a_rows a_line a_p1 0 0 (-1) v_this_density v_this_outerHigh v_this_pasteLeft v_this_pasteLow v_this_nameLength 0) H := hP
  have hD : va_D A (w_Fp_begin ad a_this a_cells a_family a_yard a_columns a_rows a_line a_p1 0 0 (-1) v_this_density v_this_outerHigh v_this_pasteLeft v_this_pasteLow v_this_nameLength 0) := hD
  refine lv_aload_n hx hb dFp_begin_20 rfl (lv_at hl 0 rfl) ?_
  refine lv_aload_n hx hb dFp_begin_21 rfl (lv_at hl 1 rfl) ?_
  refine va_put (D := (dC, dI)) (ci := 6) (v := .ref a_p1) (ty := (.object "FootprintRules$Family")) (C := RFp) (T := TFp) (N := 15) hx hb hts inZ_Fp tyFp tyFp_ok nmFp hown hK hP hD hS 0 rfl rfl 4 (by decide) (hts _ zw_288) (fun _ h9 => h9) rfl (by decide +kernel) rfl rfl (Nat.le_of_ble_eq_true rfl) dFp_begin_22 (fun H locs hP hD hS => ?_)
  have hP : va_P (dC, dI) vwCl (w_Fp_begin ad a_this a_cells a_p1 a_yard a_columns a_rows a_line a_p1 0 0 (-1) v_this_density v_this_outerHigh v_this_pasteLeft v_this_pasteLow v_this_nameLength 0) H := hP
  have hD : va_D A (w_Fp_begin ad a_this a_cells a_p1 a_yard a_columns a_rows a_line a_p1 0 0 (-1) v_this_density v_this_outerHigh v_this_pasteLeft v_this_pasteLow v_this_nameLength 0) := hD
  refine lv_aload_n hx hb dFp_begin_25 rfl (lv_at hl 0 rfl) ?_
  refine lv_iload_n hx hb dFp_begin_26 rfl (lv_at hl 2 rfl) ?_
  refine va_put (D := (dC, dI)) (ci := 6) (v := .int p2) (ty := .int) (C := RFp) (T := TFp) (N := 15) hx hb hts inZ_Fp tyFp tyFp_ok nmFp hown hK hP hD hS 0 rfl rfl 5 (by decide) (hts _ zw_289) (fun _ h9 => h9) rfl (by decide +kernel) rfl rfl (Nat.le_of_ble_eq_true rfl) dFp_begin_27 (fun H locs hP hD hS => ?_)
  have hP : va_P (dC, dI) vwCl (w_Fp_begin ad a_this a_cells a_p1 a_yard a_columns a_rows a_line a_p1 0 0 (-1) p2 v_this_outerHigh v_this_pasteLeft v_this_pasteLow v_this_nameLength 0) H := hP
  have hD : va_D A (w_Fp_begin ad a_this a_cells a_p1 a_yard a_columns a_rows a_line a_p1 0 0 (-1) p2 v_this_outerHigh v_this_pasteLeft v_this_pasteLow v_this_nameLength 0) := hD
  refine lv_aload_n hx hb dFp_begin_30 rfl (lv_at hl 0 rfl) ?_
  refine lv_lload_n hx hb dFp_begin_31 rfl (lv_at hl 3 rfl) ?_
  refine va_put (D := (dC, dI)) (ci := 6) (v := .long p3) (ty := .long) (C := RFp) (T := TFp) (N := 15) hx hb hts inZ_Fp tyFp tyFp_ok nmFp hown hK hP hD hS 0 rfl rfl 6 (by decide) (hts _ zw_290) (fun _ h9 => h9) rfl (by decide +kernel) rfl rfl (Nat.le_of_ble_eq_true rfl) dFp_begin_32 (fun H locs hP hD hS => ?_)
  have hP : va_P (dC, dI) vwCl (w_Fp_begin ad a_this a_cells a_p1 a_yard a_columns a_rows a_line a_p1 0 0 (-1) p2 p3 v_this_pasteLeft v_this_pasteLow v_this_nameLength 0) H := hP
  have hD : va_D A (w_Fp_begin ad a_this a_cells a_p1 a_yard a_columns a_rows a_line a_p1 0 0 (-1) p2 p3 v_this_pasteLeft v_this_pasteLow v_this_nameLength 0) := hD
  exact W.vret hx hb hr (fun t ht hW => ⟨⟨(0, 0, (-1), p2, p3, 0), rfl, h, by rw [ht]; exact hP, hD⟩, hS.F ht⟩) hS.2.2 dFp_begin_35
abbrev yFp_add : MethodName := ⟨"FootprintRules$Footprint", "add", "(IJJJJZJ)V"⟩
abbrev cFp_add : ByteArray := prog_5_method_3_code
abbrev wsFp_add : List Cond := .code yFp_add cFp_add 14 none :: zT
set_option maxRecDepth 100000 in
theorem zc_Fp_add : Cond.code yFp_add cFp_add 14 none ∈ zT := zm 758 (by rfl) (by rfl)
theorem dFp_add_0 : decode cFp_add 0 = .ok (.aload_n 0, 1) := by decide +kernel
theorem dFp_add_1 : decode cFp_add 1 = .ok (.getfield 49, 3) := by decide +kernel
theorem dFp_add_4 : decode cFp_add 4 = .ok (.ifCond .lt 12, 3) := by decide +kernel
theorem dFp_add_7 : decode cFp_add 7 = .ok (.aload_n 0, 1) := by decide +kernel
theorem dFp_add_8 : decode cFp_add 8 = .ok (.getfield 49, 3) := by decide +kernel
theorem dFp_add_11 : decode cFp_add 11 = .ok (.bipush 65, 2) := by decide +kernel
theorem dFp_add_13 : decode cFp_add 13 = .ok (.if_icmp .lt 4, 3) := by decide +kernel
theorem dFp_add_16 : decode cFp_add 16 = .ok (.return_, 1) := by decide +kernel
theorem dFp_add_17 : decode cFp_add 17 = .ok (.aload_n 0, 1) := by decide +kernel
theorem dFp_add_18 : decode cFp_add 18 = .ok (.getfield 49, 3) := by decide +kernel
theorem dFp_add_21 : decode cFp_add 21 = .ok (.bipush 7, 2) := by decide +kernel
theorem dFp_add_23 : decode cFp_add 23 = .ok (.imul, 1) := by decide +kernel
theorem dFp_add_24 : decode cFp_add 24 = .ok (.istore 13, 2) := by decide +kernel
theorem dFp_add_26 : decode cFp_add 26 = .ok (.aload_n 0, 1) := by decide +kernel
theorem dFp_add_27 : decode cFp_add 27 = .ok (.getfield 9, 3) := by decide +kernel
theorem dFp_add_30 : decode cFp_add 30 = .ok (.iload 13, 2) := by decide +kernel
theorem dFp_add_32 : decode cFp_add 32 = .ok (.iconst 0, 1) := by decide +kernel
theorem dFp_add_33 : decode cFp_add 33 = .ok (.iadd, 1) := by decide +kernel
theorem dFp_add_34 : decode cFp_add 34 = .ok (.iload_n 1, 1) := by decide +kernel
theorem dFp_add_35 : decode cFp_add 35 = .ok (.i2l, 1) := by decide +kernel
theorem dFp_add_36 : decode cFp_add 36 = .ok (.lastore, 1) := by decide +kernel
theorem dFp_add_37 : decode cFp_add 37 = .ok (.aload_n 0, 1) := by decide +kernel
theorem dFp_add_38 : decode cFp_add 38 = .ok (.getfield 9, 3) := by decide +kernel
theorem dFp_add_41 : decode cFp_add 41 = .ok (.iload 13, 2) := by decide +kernel
theorem dFp_add_43 : decode cFp_add 43 = .ok (.iconst 1, 1) := by decide +kernel
theorem dFp_add_44 : decode cFp_add 44 = .ok (.iadd, 1) := by decide +kernel
theorem dFp_add_45 : decode cFp_add 45 = .ok (.lload_n 2, 1) := by decide +kernel
theorem dFp_add_46 : decode cFp_add 46 = .ok (.lastore, 1) := by decide +kernel
theorem dFp_add_47 : decode cFp_add 47 = .ok (.aload_n 0, 1) := by decide +kernel
theorem dFp_add_48 : decode cFp_add 48 = .ok (.getfield 9, 3) := by decide +kernel
theorem dFp_add_51 : decode cFp_add 51 = .ok (.iload 13, 2) := by decide +kernel
theorem dFp_add_53 : decode cFp_add 53 = .ok (.iconst 2, 1) := by decide +kernel
theorem dFp_add_54 : decode cFp_add 54 = .ok (.iadd, 1) := by decide +kernel
theorem dFp_add_55 : decode cFp_add 55 = .ok (.lload 4, 2) := by decide +kernel
theorem dFp_add_57 : decode cFp_add 57 = .ok (.lastore, 1) := by decide +kernel
theorem dFp_add_58 : decode cFp_add 58 = .ok (.aload_n 0, 1) := by decide +kernel
theorem dFp_add_59 : decode cFp_add 59 = .ok (.getfield 9, 3) := by decide +kernel
theorem dFp_add_62 : decode cFp_add 62 = .ok (.iload 13, 2) := by decide +kernel
theorem dFp_add_64 : decode cFp_add 64 = .ok (.iconst 3, 1) := by decide +kernel
theorem dFp_add_65 : decode cFp_add 65 = .ok (.iadd, 1) := by decide +kernel
theorem dFp_add_66 : decode cFp_add 66 = .ok (.lload 6, 2) := by decide +kernel
theorem dFp_add_68 : decode cFp_add 68 = .ok (.lastore, 1) := by decide +kernel
theorem dFp_add_69 : decode cFp_add 69 = .ok (.aload_n 0, 1) := by decide +kernel
theorem dFp_add_70 : decode cFp_add 70 = .ok (.getfield 9, 3) := by decide +kernel
theorem dFp_add_73 : decode cFp_add 73 = .ok (.iload 13, 2) := by decide +kernel
theorem dFp_add_75 : decode cFp_add 75 = .ok (.iconst 4, 1) := by decide +kernel
theorem dFp_add_76 : decode cFp_add 76 = .ok (.iadd, 1) := by decide +kernel
theorem dFp_add_77 : decode cFp_add 77 = .ok (.lload 8, 2) := by decide +kernel
theorem dFp_add_79 : decode cFp_add 79 = .ok (.lastore, 1) := by decide +kernel
theorem dFp_add_80 : decode cFp_add 80 = .ok (.aload_n 0, 1) := by decide +kernel
theorem dFp_add_81 : decode cFp_add 81 = .ok (.getfield 9, 3) := by decide +kernel
theorem dFp_add_84 : decode cFp_add 84 = .ok (.iload 13, 2) := by decide +kernel
theorem dFp_add_86 : decode cFp_add 86 = .ok (.iconst 5, 1) := by decide +kernel
theorem dFp_add_87 : decode cFp_add 87 = .ok (.iadd, 1) := by decide +kernel
theorem dFp_add_88 : decode cFp_add 88 = .ok (.iload 10, 2) := by decide +kernel
theorem dFp_add_90 : decode cFp_add 90 = .ok (.ifCond .eq 7, 3) := by decide +kernel
theorem dFp_add_93 : decode cFp_add 93 = .ok (.lconst 1, 1) := by decide +kernel
theorem dFp_add_94 : decode cFp_add 94 = .ok (.goto 4, 3) := by decide +kernel
theorem dFp_add_97 : decode cFp_add 97 = .ok (.lconst 0, 1) := by decide +kernel
theorem dFp_add_98 : decode cFp_add 98 = .ok (.lastore, 1) := by decide +kernel
theorem dFp_add_99 : decode cFp_add 99 = .ok (.aload_n 0, 1) := by decide +kernel
theorem dFp_add_100 : decode cFp_add 100 = .ok (.getfield 9, 3) := by decide +kernel
theorem dFp_add_103 : decode cFp_add 103 = .ok (.iload 13, 2) := by decide +kernel
theorem dFp_add_105 : decode cFp_add 105 = .ok (.bipush 6, 2) := by decide +kernel
theorem dFp_add_107 : decode cFp_add 107 = .ok (.iadd, 1) := by decide +kernel
theorem dFp_add_108 : decode cFp_add 108 = .ok (.lload 11, 2) := by decide +kernel
theorem dFp_add_110 : decode cFp_add 110 = .ok (.lastore, 1) := by decide +kernel
theorem dFp_add_111 : decode cFp_add 111 = .ok (.aload_n 0, 1) := by decide +kernel
theorem dFp_add_112 : decode cFp_add 112 = .ok (.dup, 1) := by decide +kernel
theorem dFp_add_113 : decode cFp_add 113 = .ok (.getfield 49, 3) := by decide +kernel
theorem dFp_add_116 : decode cFp_add 116 = .ok (.iconst 1, 1) := by decide +kernel
theorem dFp_add_117 : decode cFp_add 117 = .ok (.iadd, 1) := by decide +kernel
theorem dFp_add_118 : decode cFp_add 118 = .ok (.putfield 49, 3) := by decide +kernel
theorem dFp_add_121 : decode cFp_add 121 = .ok (.return_, 1) := by decide +kernel
-- FootprintRules$Footprint.add(IJJJJZJ)V
abbrev w_Fp_add (ad : Nat → Nat → Nat) (a_this : Nat) (a_cells : Nat) (a_family : Nat) (a_yard : Nat) (a_columns : Nat) (a_rows : Nat) (a_line : Nat) (k_cells : ClassId) (v_this_atHand : Int32) (v_this_count : Int32) (v_this_thermal : Int32) (v_this_density : Int32) (v_this_outerHigh : Int64) (v_this_pasteLeft : Int64) (v_this_pasteLow : Int64) (v_this_nameLength : Int32) (v_this_isWritten : Int32) (v_cells : Nat → Int64) : va_W := [(a_this, .inr (6, [.int v_this_atHand, .ref a_cells, .int v_this_count, .int v_this_thermal, .ref a_family, .int v_this_density, .long v_this_outerHigh, .ref a_yard, .ref a_columns, .ref a_rows, .long v_this_pasteLeft, .long v_this_pasteLow, .ref a_line, .int v_this_nameLength, .int v_this_isWritten])), (a_cells, .inl (k_cells, 455, .inr (.inl v_cells)))]
def P_Fp_add_98 (p11 : Int64) (v_this_count : Int32) (post : Int32 → (Nat → Int64) → Prop) (y13 : Int32) (t0 : Int64) (t1 : Int32) (u_cells : Nat → Int64) : Prop := vp_in t1 455 ∧ vp_in (y13 + 6) 455 ∧ ∀ x3 : Int32, x3 = v_this_count + 1 → post x3 (vp_updL (vp_updL u_cells t1.toNatClampNeg t0) (y13 + 6).toNatClampNeg p11)
set_option maxHeartbeats 4000000 in
set_option maxRecDepth 100000 in
theorem w_Fp_add_98 (l : Launch) {p : Program} {e : Env} {s : State} {m : MethodId} {args : Array Value} {below : List Frame} {meth : Method} {c : Code} {dC : Nat → ClassId} {dI : Nat → Nat → Nat} {ad : Nat → Nat → Nat} {A : Nat → Prop} (C0 : zC p s m args meth c cFp_add 14 RFp zT none A) (hE : zE ad A s) (a_this : Nat) (a_cells : Nat) (a_family : Nat) (a_yard : Nat) (a_columns : Nat) (a_rows : Nat) (a_line : Nat) (k_cells : ClassId) (p1 : Int32) (p2 : Int64) (p4 : Int64) (p6 : Int64) (p8 : Int64) (p10 : Int32) (p11 : Int64) (v_this_atHand : Int32) (v_this_count : Int32) (v_this_thermal : Int32) (v_this_density : Int32) (v_this_outerHigh : Int64) (v_this_pasteLeft : Int64) (v_this_pasteLow : Int64) (v_this_nameLength : Int32) (v_this_isWritten : Int32) (v_cells : Nat → Int64) (post : Int32 → (Nat → Int64) → Prop) (hK : va_K (dC, dI) vwCl [(k_cells, .long)] s) : ∀ (y13 : Int32) (t0 : Int64) (t1 : Int32) (u_cells : Nat → Int64) (H : Heap) (locs : List Loc), P_Fp_add_98 p11 v_this_count post y13 t0 t1 u_cells → va_P (dC, dI) vwCl (w_Fp_add ad a_this a_cells a_family a_yard a_columns a_rows a_line k_cells v_this_atHand v_this_count v_this_thermal v_this_density v_this_outerHigh v_this_pasteLeft v_this_pasteLow v_this_nameLength v_this_isWritten u_cells) H → va_D A (w_Fp_add ad a_this a_cells a_family a_yard a_columns a_rows a_line k_cells v_this_atHand v_this_count v_this_thermal v_this_density v_this_outerHigh v_this_pasteLeft v_this_pasteLow v_this_nameLength v_this_isWritten u_cells) → va_S A s.heap H locs → ∀ ls : Array Slot, lv_has ls 14 [(0, .ref a_this), (11, .long p11), (13, .int y13)] → W p l e (headSpec wsFp_add { frames := 0, cells := 0, slots := 0, locals := 0 }).room s m args below meth c H locs 0 0 (MQ below (va_Qv (fun (u : Int32 × (Nat → Int64)) => post u.1 u.2) (zB (dC, dI) A (fun (u : Int32 × (Nat → Int64)) => (w_Fp_add ad a_this a_cells a_family a_yard a_columns a_rows a_line k_cells v_this_atHand u.1 v_this_thermal v_this_density v_this_outerHigh v_this_pasteLeft v_this_pasteLow v_this_nameLength v_this_isWritten u.2))) A) args s 0 0 A) (F0 m 98 ls [.long t0, .int t1, .ref a_cells]) := by
  obtain ⟨hx, hb, hr, hml, hown, hts, hlocks, hA⟩ := id C0
  intro y13 t0 t1 u_cells H locs h hP hD hS ls hl
  unfold P_Fp_add_98 at h
  obtain ⟨hn1, h⟩ := h
  refine va_last hx hb hK hP hD hS 1 0 rfl rfl hn1 dFp_add_98 (fun H locs hP hD hS => ?_)
  have hP : va_P (dC, dI) vwCl (w_Fp_add ad a_this a_cells a_family a_yard a_columns a_rows a_line k_cells v_this_atHand v_this_count v_this_thermal v_this_density v_this_outerHigh v_this_pasteLeft v_this_pasteLow v_this_nameLength v_this_isWritten (vp_updL u_cells t1.toNatClampNeg t0)) H := hP
  have hD : va_D A (w_Fp_add ad a_this a_cells a_family a_yard a_columns a_rows a_line k_cells v_this_atHand v_this_count v_this_thermal v_this_density v_this_outerHigh v_this_pasteLeft v_this_pasteLow v_this_nameLength v_this_isWritten (vp_updL u_cells t1.toNatClampNeg t0)) := hD
  refine lv_aload_n hx hb dFp_add_99 rfl (lv_at hl 0 rfl) ?_
  refine va_get (D := (dC, dI)) (ci := 6) (v := .ref a_cells) (C := RFp) (T := TFp) (N := 15) hx hb hts inZ_Fp hown hK hP 0 rfl rfl 1 (by decide) (hts _ zw_281) (fun _ h9 => h9) rfl dFp_add_100 ?_
  refine lv_iload hx hb dFp_add_103 (lv_at hl 2 rfl) ?_
  refine lv_bipush (v := 6) hx hb dFp_add_105 (by decide) ?_
  refine lv_iadd hx hb dFp_add_107 ?_
  refine lv_lload hx hb dFp_add_108 (lv_at hl 1 rfl) ?_
  obtain ⟨hn2, h⟩ := h
  refine va_last hx hb hK hP hD hS 1 0 rfl rfl hn2 dFp_add_110 (fun H locs hP hD hS => ?_)
  have hP : va_P (dC, dI) vwCl (w_Fp_add ad a_this a_cells a_family a_yard a_columns a_rows a_line k_cells v_this_atHand v_this_count v_this_thermal v_this_density v_this_outerHigh v_this_pasteLeft v_this_pasteLow v_this_nameLength v_this_isWritten (vp_updL (vp_updL u_cells t1.toNatClampNeg t0) (y13 + 6).toNatClampNeg p11)) H := hP
  have hD : va_D A (w_Fp_add ad a_this a_cells a_family a_yard a_columns a_rows a_line k_cells v_this_atHand v_this_count v_this_thermal v_this_density v_this_outerHigh v_this_pasteLeft v_this_pasteLow v_this_nameLength v_this_isWritten (vp_updL (vp_updL u_cells t1.toNatClampNeg t0) (y13 + 6).toNatClampNeg p11)) := hD
  refine lv_aload_n hx hb dFp_add_111 rfl (lv_at hl 0 rfl) ?_
  refine lv_dup hx hb dFp_add_112 rfl ?_
  refine va_get (D := (dC, dI)) (ci := 6) (v := .int v_this_count) (C := RFp) (T := TFp) (N := 15) hx hb hts inZ_Fp hown hK hP 0 rfl rfl 2 (by decide) (hts _ zw_282) (fun _ h9 => h9) rfl dFp_add_113 ?_
  refine lv_iconst (v := 1) hx hb dFp_add_116 (by decide) ?_
  refine lv_iadd hx hb dFp_add_117 ?_
  refine lv_topi (fun x3 ex3 => ?_)
  replace h := h x3 ex3
  refine va_put (D := (dC, dI)) (ci := 6) (v := .int x3) (ty := .int) (C := RFp) (T := TFp) (N := 15) hx hb hts inZ_Fp tyFp tyFp_ok nmFp hown hK hP hD hS 0 rfl rfl 2 (by decide) (hts _ zw_282) (fun _ h9 => h9) rfl (by decide +kernel) rfl rfl (Nat.le_of_ble_eq_true rfl) dFp_add_118 (fun H locs hP hD hS => ?_)
  have hP : va_P (dC, dI) vwCl (w_Fp_add ad a_this a_cells a_family a_yard a_columns a_rows a_line k_cells v_this_atHand x3 v_this_thermal v_this_density v_this_outerHigh v_this_pasteLeft v_this_pasteLow v_this_nameLength v_this_isWritten (vp_updL (vp_updL u_cells t1.toNatClampNeg t0) (y13 + 6).toNatClampNeg p11)) H := hP
  have hD : va_D A (w_Fp_add ad a_this a_cells a_family a_yard a_columns a_rows a_line k_cells v_this_atHand x3 v_this_thermal v_this_density v_this_outerHigh v_this_pasteLeft v_this_pasteLow v_this_nameLength v_this_isWritten (vp_updL (vp_updL u_cells t1.toNatClampNeg t0) (y13 + 6).toNatClampNeg p11)) := hD
  exact W.vret hx hb hr (fun t ht hW => ⟨⟨(x3, (vp_updL (vp_updL u_cells t1.toNatClampNeg t0) (y13 + 6).toNatClampNeg p11)), rfl, h, by rw [ht]; exact hP, hD⟩, hS.F ht⟩) hS.2.2 dFp_add_121
def P_Fp_add (p1 : Int32) (p2 : Int64) (p4 : Int64) (p6 : Int64) (p8 : Int64) (p10 : Int32) (p11 : Int64) (v_this_count : Int32) (v_cells : Nat → Int64) (post : Int32 → (Nat → Int64) → Prop) : Prop := ((v_this_count < 0 → post v_this_count v_cells) ∧ (¬ v_this_count < 0 → ((v_this_count < 65 → ∀ x3 : Int32, x3 = v_this_count * 7 → ∀ x4 : Int64, x4 = p1.toInt64 → vp_in (x3 + 0) 455 ∧ vp_in (x3 + 1) 455 ∧ vp_in (x3 + 2) 455 ∧ vp_in (x3 + 3) 455 ∧ vp_in (x3 + 4) 455 ∧ ((p10 = 0 → P_Fp_add_98 p11 v_this_count post x3 0 (x3 + 5) (vp_updL (vp_updL (vp_updL (vp_updL (vp_updL v_cells (x3 + 0).toNatClampNeg x4) (x3 + 1).toNatClampNeg p2) (x3 + 2).toNatClampNeg p4) (x3 + 3).toNatClampNeg p6) (x3 + 4).toNatClampNeg p8)) ∧ (¬ p10 = 0 → P_Fp_add_98 p11 v_this_count post x3 1 (x3 + 5) (vp_updL (vp_updL (vp_updL (vp_updL (vp_updL v_cells (x3 + 0).toNatClampNeg x4) (x3 + 1).toNatClampNeg p2) (x3 + 2).toNatClampNeg p4) (x3 + 3).toNatClampNeg p6) (x3 + 4).toNatClampNeg p8)))) ∧ (¬ v_this_count < 65 → post v_this_count v_cells))))
set_option maxHeartbeats 4000000 in
set_option maxRecDepth 100000 in
theorem c_Fp_add (l : Launch) (dC : Nat → ClassId) (dI : Nat → Nat → Nat) (ad : Nat → Nat → Nat) (a_this : Nat) (a_cells : Nat) (a_family : Nat) (a_yard : Nat) (a_columns : Nat) (a_rows : Nat) (a_line : Nat) (k_cells : ClassId) (sz : Nat) (p1 : Int32) (p2 : Int64) (p4 : Int64) (p6 : Int64) (p8 : Int64) (p10 : Int32) (p11 : Int64) (v_this_atHand : Int32) (v_this_count : Int32) (v_this_thermal : Int32) (v_this_density : Int32) (v_this_outerHigh : Int64) (v_this_pasteLeft : Int64) (v_this_pasteLow : Int64) (v_this_nameLength : Int32) (v_this_isWritten : Int32) (v_cells : Nat → Int64) (post : Int32 → (Nat → Int64) → Prop) (h : P_Fp_add p1 p2 p4 p6 p8 p10 p11 v_this_count v_cells post) : zMv l yFp_add wsFp_add { frames := 0, cells := 0, slots := 0, locals := 0 } (dC, dI) ad [.ref a_this, .int p1, .long p2, .long p4, .long p6, .long p8, .int p10, .long p11] (w_Fp_add ad a_this a_cells a_family a_yard a_columns a_rows a_line k_cells v_this_atHand v_this_count v_this_thermal v_this_density v_this_outerHigh v_this_pasteLeft v_this_pasteLow v_this_nameLength v_this_isWritten v_cells) [(k_cells, .long)] sz (fun (u : Int32 × (Nat → Int64)) => post u.1 u.2) (fun (u : Int32 × (Nat → Int64)) => (w_Fp_add ad a_this a_cells a_family a_yard a_columns a_rows a_line k_cells v_this_atHand u.1 v_this_thermal v_this_density v_this_outerHigh v_this_pasteLeft v_this_pasteLow v_this_nameLength v_this_isWritten u.2)) 0 0 := by
  refine Met.ofW (cc := cFp_add) (maxL := 14) (ret := none) (by decide +kernel) rfl ?_
  intro p e s m args below meth c s₁ B hml hv
  obtain ⟨rfl, hsz, hP, hK, hD0, hE⟩ := hv
  have hx := B.exec
  have hb := B.bytes
  have hr := B.returns
  have hts0 := atoms_spec (ws := wsFp_add) B.pre
  have hts := fun w h => hts0 w (List.mem_cons_of_mem _ h)
  have hown : s.vm.findClass RFp = some m.cls := findClass_of_methodNamed B.named
  have hlocks := B.notSynchronized
  subst hsz
  have hD := hD0.self (sz := s.heap.size)
  generalize hAe : va_A (w_Fp_add ad a_this a_cells a_family a_yard a_columns a_rows a_line k_cells v_this_atHand v_this_count v_this_thermal v_this_density v_this_outerHigh v_this_pasteLeft v_this_pasteLow v_this_nameLength v_this_isWritten v_cells) s.heap.size = A at hD hE ⊢
  have hA : ∀ q : Nat, s.heap.size ≤ q → A q := fun q h => by rw [← hAe]; exact Or.inr h
  have C0 := zC.mk hx hb hr hml hown hts hlocks hA
  have hS : va_S A s.heap s.heap [] := va_S.rf
  have hl := lv_entry ([.ref a_this, .int p1, .long p2, .long p4, .long p6, .long p8, .int p10, .long p11]) (n := 14) (Nat.le_of_ble_eq_true rfl)
  rw [lg_entry_eq]
  generalize (lg_sl ([.ref a_this, .int p1, .long p2, .long p4, .long p6, .long p8, .int p10, .long p11]) ++ List.replicate (14 - (lg_sl ([.ref a_this, .int p1, .long p2, .long p4, .long p6, .long p8, .int p10, .long p11])).length) Slot.unset).toArray = ls at hl ⊢
  have hl : lv_has ls 14 [(0, .ref a_this), (1, .int p1), (2, .long p2), (4, .long p4), (6, .long p6), (8, .long p8), (10, .int p10), (11, .long p11)] := hl
  unfold P_Fp_add at h
  refine lv_aload_n hx hb dFp_add_0 rfl (lv_at hl 0 rfl) ?_
  refine va_get (D := (dC, dI)) (ci := 6) (v := .int v_this_count) (C := RFp) (T := TFp) (N := 15) hx hb hts inZ_Fp hown hK hP 0 rfl rfl 2 (by decide) (hts _ zw_282) (fun _ h9 => h9) rfl dFp_add_1 ?_
  refine lv_if_lt (tgt := 16) hx hb dFp_add_4 (by decide) ?_ ?_
  · intro c1
    replace h := h.1 c1
    exact W.vret hx hb hr (fun t ht hW => ⟨⟨(v_this_count, v_cells), rfl, h, by rw [ht]; exact hP, hD⟩, hS.F ht⟩) hS.2.2 dFp_add_16
  · intro c1
    replace h := h.2 c1
    refine lv_aload_n hx hb dFp_add_7 rfl (lv_at hl 0 rfl) ?_
    refine va_get (D := (dC, dI)) (ci := 6) (v := .int v_this_count) (C := RFp) (T := TFp) (N := 15) hx hb hts inZ_Fp hown hK hP 0 rfl rfl 2 (by decide) (hts _ zw_282) (fun _ h9 => h9) rfl dFp_add_8 ?_
    refine lv_bipush (v := 65) hx hb dFp_add_11 (by decide) ?_
    refine lv_icmp_lt (tgt := 17) hx hb dFp_add_13 (by decide) ?_ ?_
    · intro c2
      replace h := h.1 c2
      refine lv_aload_n hx hb dFp_add_17 rfl (lv_at hl 0 rfl) ?_
      refine va_get (D := (dC, dI)) (ci := 6) (v := .int v_this_count) (C := RFp) (T := TFp) (N := 15) hx hb hts inZ_Fp hown hK hP 0 rfl rfl 2 (by decide) (hts _ zw_282) (fun _ h9 => h9) rfl dFp_add_18 ?_
      refine lv_bipush (v := 7) hx hb dFp_add_21 (by decide) ?_
      refine lv_imul hx hb dFp_add_23 ?_
      refine lv_topi (fun x3 ex3 => ?_)
      replace h := h x3 ex3
      refine lv_istore (lv' := [(13, .int x3), (0, .ref a_this), (1, .int p1), (2, .long p2), (4, .long p4), (6, .long p6), (8, .long p8), (10, .int p10), (11, .long p11)]) hx hb dFp_add_24 hl (by decide) rfl (fun ls hl => ?_)
      refine lv_aload_n hx hb dFp_add_26 rfl (lv_at hl 1 rfl) ?_
      refine va_get (D := (dC, dI)) (ci := 6) (v := .ref a_cells) (C := RFp) (T := TFp) (N := 15) hx hb hts inZ_Fp hown hK hP 0 rfl rfl 1 (by decide) (hts _ zw_281) (fun _ h9 => h9) rfl dFp_add_27 ?_
      refine lv_iload hx hb dFp_add_30 (lv_at hl 0 rfl) ?_
      refine lv_iconst (v := 0) hx hb dFp_add_32 (by decide) ?_
      refine lv_iadd hx hb dFp_add_33 ?_
      refine lv_iload_n hx hb dFp_add_34 rfl (lv_at hl 2 rfl) ?_
      refine lv_i2l hx hb dFp_add_35 rfl ?_
      refine lv_topl (fun x4 ex4 => ?_)
      replace h := h x4 ex4
      obtain ⟨hn5, h⟩ := h
      refine va_last hx hb hK hP hD hS 1 0 rfl rfl hn5 dFp_add_36 (fun H locs hP hD hS => ?_)
      have hP : va_P (dC, dI) vwCl (w_Fp_add ad a_this a_cells a_family a_yard a_columns a_rows a_line k_cells v_this_atHand v_this_count v_this_thermal v_this_density v_this_outerHigh v_this_pasteLeft v_this_pasteLow v_this_nameLength v_this_isWritten (vp_updL v_cells (x3 + 0).toNatClampNeg x4)) H := hP
      have hD : va_D A (w_Fp_add ad a_this a_cells a_family a_yard a_columns a_rows a_line k_cells v_this_atHand v_this_count v_this_thermal v_this_density v_this_outerHigh v_this_pasteLeft v_this_pasteLow v_this_nameLength v_this_isWritten (vp_updL v_cells (x3 + 0).toNatClampNeg x4)) := hD
      refine lv_aload_n hx hb dFp_add_37 rfl (lv_at hl 1 rfl) ?_
      refine va_get (D := (dC, dI)) (ci := 6) (v := .ref a_cells) (C := RFp) (T := TFp) (N := 15) hx hb hts inZ_Fp hown hK hP 0 rfl rfl 1 (by decide) (hts _ zw_281) (fun _ h9 => h9) rfl dFp_add_38 ?_
      refine lv_iload hx hb dFp_add_41 (lv_at hl 0 rfl) ?_
      refine lv_iconst (v := 1) hx hb dFp_add_43 (by decide) ?_
      refine lv_iadd hx hb dFp_add_44 ?_
      refine lv_lload_n hx hb dFp_add_45 rfl (lv_at hl 3 rfl) ?_
      obtain ⟨hn6, h⟩ := h
      refine va_last hx hb hK hP hD hS 1 0 rfl rfl hn6 dFp_add_46 (fun H locs hP hD hS => ?_)
      have hP : va_P (dC, dI) vwCl (w_Fp_add ad a_this a_cells a_family a_yard a_columns a_rows a_line k_cells v_this_atHand v_this_count v_this_thermal v_this_density v_this_outerHigh v_this_pasteLeft v_this_pasteLow v_this_nameLength v_this_isWritten (vp_updL (vp_updL v_cells (x3 + 0).toNatClampNeg x4) (x3 + 1).toNatClampNeg p2)) H := hP
      have hD : va_D A (w_Fp_add ad a_this a_cells a_family a_yard a_columns a_rows a_line k_cells v_this_atHand v_this_count v_this_thermal v_this_density v_this_outerHigh v_this_pasteLeft v_this_pasteLow v_this_nameLength v_this_isWritten (vp_updL (vp_updL v_cells (x3 + 0).toNatClampNeg x4) (x3 + 1).toNatClampNeg p2)) := hD
      refine lv_aload_n hx hb dFp_add_47 rfl (lv_at hl 1 rfl) ?_
      refine va_get (D := (dC, dI)) (ci := 6) (v := .ref a_cells) (C := RFp) (T := TFp) (N := 15) hx hb hts inZ_Fp hown hK hP 0 rfl rfl 1 (by decide) (hts _ zw_281) (fun _ h9 => h9) rfl dFp_add_48 ?_
      refine lv_iload hx hb dFp_add_51 (lv_at hl 0 rfl) ?_
      refine lv_iconst (v := 2) hx hb dFp_add_53 (by decide) ?_
      refine lv_iadd hx hb dFp_add_54 ?_
      refine lv_lload hx hb dFp_add_55 (lv_at hl 4 rfl) ?_
      obtain ⟨hn7, h⟩ := h
      refine va_last hx hb hK hP hD hS 1 0 rfl rfl hn7 dFp_add_57 (fun H locs hP hD hS => ?_)
      have hP : va_P (dC, dI) vwCl (w_Fp_add ad a_this a_cells a_family a_yard a_columns a_rows a_line k_cells v_this_atHand v_this_count v_this_thermal v_this_density v_this_outerHigh v_this_pasteLeft v_this_pasteLow v_this_nameLength v_this_isWritten (vp_updL (vp_updL (vp_updL v_cells (x3 + 0).toNatClampNeg x4) (x3 + 1).toNatClampNeg p2) (x3 + 2).toNatClampNeg p4)) H := hP
      have hD : va_D A (w_Fp_add ad a_this a_cells a_family a_yard a_columns a_rows a_line k_cells v_this_atHand v_this_count v_this_thermal v_this_density v_this_outerHigh v_this_pasteLeft v_this_pasteLow v_this_nameLength v_this_isWritten (vp_updL (vp_updL (vp_updL v_cells (x3 + 0).toNatClampNeg x4) (x3 + 1).toNatClampNeg p2) (x3 + 2).toNatClampNeg p4)) := hD
      refine lv_aload_n hx hb dFp_add_58 rfl (lv_at hl 1 rfl) ?_
      refine va_get (D := (dC, dI)) (ci := 6) (v := .ref a_cells) (C := RFp) (T := TFp) (N := 15) hx hb hts inZ_Fp hown hK hP 0 rfl rfl 1 (by decide) (hts _ zw_281) (fun _ h9 => h9) rfl dFp_add_59 ?_
      refine lv_iload hx hb dFp_add_62 (lv_at hl 0 rfl) ?_
      refine lv_iconst (v := 3) hx hb dFp_add_64 (by decide) ?_
      refine lv_iadd hx hb dFp_add_65 ?_
      refine lv_lload hx hb dFp_add_66 (lv_at hl 5 rfl) ?_
      obtain ⟨hn8, h⟩ := h
      refine va_last hx hb hK hP hD hS 1 0 rfl rfl hn8 dFp_add_68 (fun H locs hP hD hS => ?_)
      have hP : va_P (dC, dI) vwCl (w_Fp_add ad a_this a_cells a_family a_yard a_columns a_rows a_line k_cells v_this_atHand v_this_count v_this_thermal v_this_density v_this_outerHigh v_this_pasteLeft v_this_pasteLow v_this_nameLength v_this_isWritten (vp_updL (vp_updL (vp_updL (vp_updL v_cells (x3 + 0).toNatClampNeg x4) (x3 + 1).toNatClampNeg p2) (x3 + 2).toNatClampNeg p4) (x3 + 3).toNatClampNeg p6)) H := hP
      have hD : va_D A (w_Fp_add ad a_this a_cells a_family a_yard a_columns a_rows a_line k_cells v_this_atHand v_this_count v_this_thermal v_this_density v_this_outerHigh v_this_pasteLeft v_this_pasteLow v_this_nameLength v_this_isWritten (vp_updL (vp_updL (vp_updL (vp_updL v_cells (x3 + 0).toNatClampNeg x4) (x3 + 1).toNatClampNeg p2) (x3 + 2).toNatClampNeg p4) (x3 + 3).toNatClampNeg p6)) := hD
      refine lv_aload_n hx hb dFp_add_69 rfl (lv_at hl 1 rfl) ?_
      refine va_get (D := (dC, dI)) (ci := 6) (v := .ref a_cells) (C := RFp) (T := TFp) (N := 15) hx hb hts inZ_Fp hown hK hP 0 rfl rfl 1 (by decide) (hts _ zw_281) (fun _ h9 => h9) rfl dFp_add_70 ?_
      refine lv_iload hx hb dFp_add_73 (lv_at hl 0 rfl) ?_
      refine lv_iconst (v := 4) hx hb dFp_add_75 (by decide) ?_
      refine lv_iadd hx hb dFp_add_76 ?_
      refine lv_lload hx hb dFp_add_77 (lv_at hl 6 rfl) ?_
      obtain ⟨hn9, h⟩ := h
      refine va_last hx hb hK hP hD hS 1 0 rfl rfl hn9 dFp_add_79 (fun H locs hP hD hS => ?_)
      have hP : va_P (dC, dI) vwCl (w_Fp_add ad a_this a_cells a_family a_yard a_columns a_rows a_line k_cells v_this_atHand v_this_count v_this_thermal v_this_density v_this_outerHigh v_this_pasteLeft v_this_pasteLow v_this_nameLength v_this_isWritten (vp_updL (vp_updL (vp_updL (vp_updL (vp_updL v_cells (x3 + 0).toNatClampNeg x4) (x3 + 1).toNatClampNeg p2) (x3 + 2).toNatClampNeg p4) (x3 + 3).toNatClampNeg p6) (x3 + 4).toNatClampNeg p8)) H := hP
      have hD : va_D A (w_Fp_add ad a_this a_cells a_family a_yard a_columns a_rows a_line k_cells v_this_atHand v_this_count v_this_thermal v_this_density v_this_outerHigh v_this_pasteLeft v_this_pasteLow v_this_nameLength v_this_isWritten (vp_updL (vp_updL (vp_updL (vp_updL (vp_updL v_cells (x3 + 0).toNatClampNeg x4) (x3 + 1).toNatClampNeg p2) (x3 + 2).toNatClampNeg p4) (x3 + 3).toNatClampNeg p6) (x3 + 4).toNatClampNeg p8)) := hD
      refine lv_aload_n hx hb dFp_add_80 rfl (lv_at hl 1 rfl) ?_
      refine va_get (D := (dC, dI)) (ci := 6) (v := .ref a_cells) (C := RFp) (T := TFp) (N := 15) hx hb hts inZ_Fp hown hK hP 0 rfl rfl 1 (by decide) (hts _ zw_281) (fun _ h9 => h9) rfl dFp_add_81 ?_
      refine lv_iload hx hb dFp_add_84 (lv_at hl 0 rfl) ?_
      refine lv_iconst (v := 5) hx hb dFp_add_86 (by decide) ?_
      refine lv_iadd hx hb dFp_add_87 ?_
      refine lv_iload hx hb dFp_add_88 (lv_at hl 7 rfl) ?_
      refine lv_if_eq (tgt := 97) hx hb dFp_add_90 (by decide) ?_ ?_
      · intro c10
        replace h := h.1 c10
        refine lv_lconst (v := 0) hx hb dFp_add_97 (by decide) ?_
        exact w_Fp_add_98 l C0 hE a_this a_cells a_family a_yard a_columns a_rows a_line k_cells p1 p2 p4 p6 p8 p10 p11 v_this_atHand v_this_count v_this_thermal v_this_density v_this_outerHigh v_this_pasteLeft v_this_pasteLow v_this_nameLength v_this_isWritten v_cells post hK x3 0 (x3 + 5) (vp_updL (vp_updL (vp_updL (vp_updL (vp_updL v_cells (x3 + 0).toNatClampNeg x4) (x3 + 1).toNatClampNeg p2) (x3 + 2).toNatClampNeg p4) (x3 + 3).toNatClampNeg p6) (x3 + 4).toNatClampNeg p8) _ _ h hP hD hS ls (lv_sub hl [1, 8, 0] rfl)
      · intro c10
        replace h := h.2 c10
        refine lv_lconst (v := 1) hx hb dFp_add_93 (by decide) ?_
        refine lv_goto (tgt := 98) hx hb dFp_add_94 (by decide) ?_
        exact w_Fp_add_98 l C0 hE a_this a_cells a_family a_yard a_columns a_rows a_line k_cells p1 p2 p4 p6 p8 p10 p11 v_this_atHand v_this_count v_this_thermal v_this_density v_this_outerHigh v_this_pasteLeft v_this_pasteLow v_this_nameLength v_this_isWritten v_cells post hK x3 1 (x3 + 5) (vp_updL (vp_updL (vp_updL (vp_updL (vp_updL v_cells (x3 + 0).toNatClampNeg x4) (x3 + 1).toNatClampNeg p2) (x3 + 2).toNatClampNeg p4) (x3 + 3).toNatClampNeg p6) (x3 + 4).toNatClampNeg p8) _ _ h hP hD hS ls (lv_sub hl [1, 8, 0] rfl)
    · intro c2
      replace h := h.2 c2
      exact W.vret hx hb hr (fun t ht hW => ⟨⟨(v_this_count, v_cells), rfl, h, by rw [ht]; exact hP, hD⟩, hS.F ht⟩) hS.2.2 dFp_add_16
