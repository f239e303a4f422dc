abbrev yM_thrown : MethodName := ⟨"FootprintRulesModel", "thrown", "()I"⟩
abbrev cM_thrown : ByteArray := prog_14_method_2_code
abbrev wsM_thrown : List Cond := .code yM_thrown cM_thrown 1 (some .int) :: zT
set_option maxRecDepth 100000 in
theorem zc_M_thrown : Cond.code yM_thrown cM_thrown 1 (some .int) ∈ zT := zm 1132 (by rfl) (by rfl)
theorem dM_thrown_0 : decode cM_thrown 0 = .ok (.aload_n 0, 1) := by decide +kernel
theorem dM_thrown_1 : decode cM_thrown 1 = .ok (.getfield 54, 3) := by decide +kernel
theorem dM_thrown_4 : decode cM_thrown 4 = .ok (.ireturn, 1) := by decide +kernel
theorem zw_1044 : Cond.fieldLink "FootprintRulesModel" 54 "FootprintRulesModel" "thrown" "I" ∈ zT := zm 1044 (by decide +kernel) (by decide +kernel)
theorem zw_1046 : Cond.fieldLink "FootprintRulesModel" 58 "FootprintRulesModel" "size" "I" ∈ zT := zm 1046 (by decide +kernel) (by decide +kernel)
theorem zw_1045 : Cond.fieldLink "FootprintRulesModel" 7 "FootprintRulesModel" "units" "[I" ∈ zT := zm 1045 (by decide +kernel) (by decide +kernel)
theorem zw_1068 : Cond.fieldLink "FootprintRulesModel" 61 "FootprintRulesModel" "at" "I" ∈ zT := zm 1068 (by decide +kernel) (by decide +kernel)
theorem zw_1145 : Cond.methodLink "FootprintRulesModel" 64 ⟨"FootprintRulesModel", "isGap", "(I)Z"⟩ ∈ zT := zm 1145 (by decide +kernel) (by decide +kernel)
theorem zw_107 : Cond.initialized "FootprintRulesModel" ∈ zT := zm 107 (by decide +kernel) (by decide +kernel)
theorem zw_1147 : Cond.instanceMethod ⟨"FootprintRulesModel", "isGap", "(I)Z"⟩ ∈ zT := zm 1147 (by decide +kernel) (by decide +kernel)
theorem zw_70 : Cond.selects "FootprintRulesModel" ⟨"FootprintRulesModel", "isGap", "(I)Z"⟩ ⟨"FootprintRulesModel", "isGap", "(I)Z"⟩ ∈ zT := zm 70 (by decide +kernel) (by decide +kernel)
theorem zw_1069 : Cond.fieldLink "FootprintRulesModel" 68 "FootprintRulesModel" "begin" "I" ∈ zT := zm 1069 (by decide +kernel) (by decide +kernel)
theorem zw_1070 : Cond.fieldLink "FootprintRulesModel" 71 "FootprintRulesModel" "words" "I" ∈ zT := zm 1070 (by decide +kernel) (by decide +kernel)
theorem zw_1153 : Cond.constantLong "FootprintRulesModel" 74 (-1) ∈ zT := zm 1153 (by decide +kernel) (by decide +kernel)
theorem zw_1154 : Cond.constantLong "FootprintRulesModel" 76 27 ∈ zT := zm 1154 (by decide +kernel) (by decide +kernel)
theorem zw_1158 : Cond.methodLink "FootprintRulesModel" 78 ⟨"FootprintRulesModel", "spelt", "(IIIII)J"⟩ ∈ zT := zm 1158 (by decide +kernel) (by decide +kernel)
theorem zw_1159 : Cond.static ⟨"FootprintRulesModel", "spelt", "(IIIII)J"⟩ ∈ zT := zm 1159 (by decide +kernel) (by decide +kernel)
theorem zw_1174 : Cond.constantLong "FootprintRulesModel" 86 10000000 ∈ zT := zm 1174 (by decide +kernel) (by decide +kernel)
theorem zw_1172 : Cond.constantLong "FootprintRulesModel" 82 100000000 ∈ zT := zm 1172 (by decide +kernel) (by decide +kernel)
theorem zw_1173 : Cond.constantLong "FootprintRulesModel" 84 10 ∈ zT := zm 1173 (by decide +kernel) (by decide +kernel)
theorem zw_1178 : Cond.constantLong "FootprintRulesModel" 88 10000 ∈ zT := zm 1178 (by decide +kernel) (by decide +kernel)
theorem zw_1179 : Cond.constantLong "FootprintRulesModel" 90 2 ∈ zT := zm 1179 (by decide +kernel) (by decide +kernel)
theorem zw_1141 : Cond.methodLink "FootprintRulesModel" 92 ⟨"FootprintRulesModel", "next", "()Z"⟩ ∈ zT := zm 1141 (by decide +kernel) (by decide +kernel)
theorem zw_1143 : Cond.instanceMethod ⟨"FootprintRulesModel", "next", "()Z"⟩ ∈ zT := zm 1143 (by decide +kernel) (by decide +kernel)
theorem zw_69 : Cond.selects "FootprintRulesModel" ⟨"FootprintRulesModel", "next", "()Z"⟩ ⟨"FootprintRulesModel", "next", "()Z"⟩ ∈ zT := zm 69 (by decide +kernel) (by decide +kernel)
theorem zw_1168 : Cond.methodLink "FootprintRulesModel" 100 ⟨"FootprintRulesModel", "number", "()J"⟩ ∈ zT := zm 1168 (by decide +kernel) (by decide +kernel)
theorem zw_1170 : Cond.instanceMethod ⟨"FootprintRulesModel", "number", "()J"⟩ ∈ zT := zm 1170 (by decide +kernel) (by decide +kernel)
theorem zw_73 : Cond.selects "FootprintRulesModel" ⟨"FootprintRulesModel", "number", "()J"⟩ ⟨"FootprintRulesModel", "number", "()J"⟩ ∈ zT := zm 73 (by decide +kernel) (by decide +kernel)
theorem zw_1149 : Cond.methodLink "FootprintRulesModel" 96 ⟨"FootprintRulesModel", "letters", "(II)J"⟩ ∈ zT := zm 1149 (by decide +kernel) (by decide +kernel)
theorem zw_1151 : Cond.instanceMethod ⟨"FootprintRulesModel", "letters", "(II)J"⟩ ∈ zT := zm 1151 (by decide +kernel) (by decide +kernel)
theorem zw_71 : Cond.selects "FootprintRulesModel" ⟨"FootprintRulesModel", "letters", "(II)J"⟩ ⟨"FootprintRulesModel", "letters", "(II)J"⟩ ∈ zT := zm 71 (by decide +kernel) (by decide +kernel)
theorem zw_1175 : Cond.methodLink "FootprintRulesModel" 104 ⟨"FootprintRulesModel", "can", "(IJ)Z"⟩ ∈ zT := zm 1175 (by decide +kernel) (by decide +kernel)
theorem zw_1176 : Cond.static ⟨"FootprintRulesModel", "can", "(IJ)Z"⟩ ∈ zT := zm 1176 (by decide +kernel) (by decide +kernel)
theorem zw_1049 : Cond.fieldLink "FootprintRulesModel" 16 "FootprintRulesModel" "values" "[J" ∈ zT := zm 1049 (by decide +kernel) (by decide +kernel)
theorem zw_1050 : Cond.fieldLink "FootprintRulesModel" 20 "FootprintRulesModel" "names" "[J" ∈ zT := zm 1050 (by decide +kernel) (by decide +kernel)
theorem zw_1047 : Cond.fieldLink "FootprintRulesModel" 108 "FootprintRulesModel" "families" "I" ∈ zT := zm 1047 (by decide +kernel) (by decide +kernel)
theorem zw_1155 : Cond.methodLink "FootprintRulesModel" 111 ⟨"FootprintRulesModel", "kindName", "(I)J"⟩ ∈ zT := zm 1155 (by decide +kernel) (by decide +kernel)
theorem zw_1156 : Cond.static ⟨"FootprintRulesModel", "kindName", "(I)J"⟩ ∈ zT := zm 1156 (by decide +kernel) (by decide +kernel)
theorem zw_1048 : Cond.fieldLink "FootprintRulesModel" 13 "FootprintRulesModel" "kinds" "[I" ∈ zT := zm 1048 (by decide +kernel) (by decide +kernel)
theorem zw_1161 : Cond.methodLink "FootprintRulesModel" 115 ⟨"FootprintRulesModel", "keyName", "(I)J"⟩ ∈ zT := zm 1161 (by decide +kernel) (by decide +kernel)
theorem zw_1162 : Cond.static ⟨"FootprintRulesModel", "keyName", "(I)J"⟩ ∈ zT := zm 1162 (by decide +kernel) (by decide +kernel)
theorem zw_1164 : Cond.methodLink "FootprintRulesModel" 118 ⟨"FootprintRulesModel", "take", "(II)Z"⟩ ∈ zT := zm 1164 (by decide +kernel) (by decide +kernel)
theorem zw_1166 : Cond.instanceMethod ⟨"FootprintRulesModel", "take", "(II)Z"⟩ ∈ zT := zm 1166 (by decide +kernel) (by decide +kernel)
theorem zw_72 : Cond.selects "FootprintRulesModel" ⟨"FootprintRulesModel", "take", "(II)Z"⟩ ⟨"FootprintRulesModel", "take", "(II)Z"⟩ ∈ zT := zm 72 (by decide +kernel) (by decide +kernel)
theorem zw_1051 : Cond.fieldLink "FootprintRulesModel" 23 "FootprintRulesModel" "low" "[J" ∈ zT := zm 1051 (by decide +kernel) (by decide +kernel)
theorem zw_1052 : Cond.fieldLink "FootprintRulesModel" 26 "FootprintRulesModel" "high" "[J" ∈ zT := zm 1052 (by decide +kernel) (by decide +kernel)
theorem zw_1053 : Cond.fieldLink "FootprintRulesModel" 29 "FootprintRulesModel" "told" "[Z" ∈ zT := zm 1053 (by decide +kernel) (by decide +kernel)
theorem zw_1054 : Cond.fieldLink "FootprintRulesModel" 33 "FootprintRulesModel" "leftOut" "[Z" ∈ zT := zm 1054 (by decide +kernel) (by decide +kernel)
theorem zw_1192 : Cond.constantLong "FootprintRulesModel" 122 (-100000000) ∈ zT := zm 1192 (by decide +kernel) (by decide +kernel)
theorem zw_1055 : Cond.fieldLink "FootprintRulesModel" 36 "FootprintRulesModel" "isMade" "[Z" ∈ zT := zm 1055 (by decide +kernel) (by decide +kernel)
theorem zw_1056 : Cond.fieldLink "FootprintRulesModel" 39 "FootprintRulesModel" "hands" "[J" ∈ zT := zm 1056 (by decide +kernel) (by decide +kernel)
theorem zw_1057 : Cond.fieldLink "FootprintRulesModel" 124 "FootprintRulesModel" "atHand" "Z" ∈ zT := zm 1057 (by decide +kernel) (by decide +kernel)
theorem zw_1058 : Cond.fieldLink "FootprintRulesModel" 128 "FootprintRulesModel" "family" "I" ∈ zT := zm 1058 (by decide +kernel) (by decide +kernel)
theorem zw_1059 : Cond.fieldLink "FootprintRulesModel" 131 "FootprintRulesModel" "density" "I" ∈ zT := zm 1059 (by decide +kernel) (by decide +kernel)
theorem zw_1060 : Cond.fieldLink "FootprintRulesModel" 134 "FootprintRulesModel" "pads" "I" ∈ zT := zm 1060 (by decide +kernel) (by decide +kernel)
theorem zw_1061 : Cond.fieldLink "FootprintRulesModel" 42 "FootprintRulesModel" "pad" "[J" ∈ zT := zm 1061 (by decide +kernel) (by decide +kernel)
theorem zw_1213 : Cond.methodLink "FootprintRulesModel" 137 ⟨"FootprintRulesModel", "isExact", "(I)Z"⟩ ∈ zT := zm 1213 (by decide +kernel) (by decide +kernel)
theorem zw_1215 : Cond.instanceMethod ⟨"FootprintRulesModel", "isExact", "(I)Z"⟩ ∈ zT := zm 1215 (by decide +kernel) (by decide +kernel)
theorem zw_77 : Cond.selects "FootprintRulesModel" ⟨"FootprintRulesModel", "isExact", "(I)Z"⟩ ⟨"FootprintRulesModel", "isExact", "(I)Z"⟩ ∈ zT := zm 77 (by decide +kernel) (by decide +kernel)
theorem zw_1236 : Cond.constantLong "FootprintRulesModel" 140 64 ∈ zT := zm 1236 (by decide +kernel) (by decide +kernel)
theorem zw_1201 : Cond.methodLink "FootprintRulesModel" 142 ⟨"FootprintRulesModel", "of", "(I)J"⟩ ∈ zT := zm 1201 (by decide +kernel) (by decide +kernel)
theorem zw_1203 : Cond.instanceMethod ⟨"FootprintRulesModel", "of", "(I)J"⟩ ∈ zT := zm 1203 (by decide +kernel) (by decide +kernel)
theorem zw_74 : Cond.selects "FootprintRulesModel" ⟨"FootprintRulesModel", "of", "(I)J"⟩ ⟨"FootprintRulesModel", "of", "(I)J"⟩ ∈ zT := zm 74 (by decide +kernel) (by decide +kernel)
theorem zw_1218 : Cond.methodLink "FootprintRulesModel" 145 ⟨"FootprintRulesModel", "up", "(JJ)J"⟩ ∈ zT := zm 1218 (by decide +kernel) (by decide +kernel)
theorem zw_1219 : Cond.static ⟨"FootprintRulesModel", "up", "(JJ)J"⟩ ∈ zT := zm 1219 (by decide +kernel) (by decide +kernel)
theorem zw_1241 : Cond.methodLink "FootprintRulesModel" 149 ⟨"FootprintRulesModel", "down", "(JJ)J"⟩ ∈ zT := zm 1241 (by decide +kernel) (by decide +kernel)
theorem zw_1242 : Cond.static ⟨"FootprintRulesModel", "down", "(JJ)J"⟩ ∈ zT := zm 1242 (by decide +kernel) (by decide +kernel)
theorem zw_1209 : Cond.methodLink "FootprintRulesModel" 152 ⟨"FootprintRulesModel", "hasPitch", "()Z"⟩ ∈ zT := zm 1209 (by decide +kernel) (by decide +kernel)
theorem zw_1211 : Cond.instanceMethod ⟨"FootprintRulesModel", "hasPitch", "()Z"⟩ ∈ zT := zm 1211 (by decide +kernel) (by decide +kernel)
theorem zw_76 : Cond.selects "FootprintRulesModel" ⟨"FootprintRulesModel", "hasPitch", "()Z"⟩ ⟨"FootprintRulesModel", "hasPitch", "()Z"⟩ ∈ zT := zm 76 (by decide +kernel) (by decide +kernel)
theorem zw_1232 : Cond.methodLink "FootprintRulesModel" 155 ⟨"FootprintRulesModel", "hasCount", "(JJ)Z"⟩ ∈ zT := zm 1232 (by decide +kernel) (by decide +kernel)
theorem zw_1234 : Cond.instanceMethod ⟨"FootprintRulesModel", "hasCount", "(JJ)Z"⟩ ∈ zT := zm 1234 (by decide +kernel) (by decide +kernel)
theorem zw_80 : Cond.selects "FootprintRulesModel" ⟨"FootprintRulesModel", "hasCount", "(JJ)Z"⟩ ⟨"FootprintRulesModel", "hasCount", "(JJ)Z"⟩ ∈ zT := zm 80 (by decide +kernel) (by decide +kernel)
theorem zw_1244 : Cond.constantLong "FootprintRulesModel" 159 4 ∈ zT := zm 1244 (by decide +kernel) (by decide +kernel)
theorem zw_1221 : Cond.methodLink "FootprintRulesModel" 161 ⟨"FootprintRulesModel", "middle", "(JJJ)J"⟩ ∈ zT := zm 1221 (by decide +kernel) (by decide +kernel)
theorem zw_1222 : Cond.static ⟨"FootprintRulesModel", "middle", "(JJJ)J"⟩ ∈ zT := zm 1222 (by decide +kernel) (by decide +kernel)
theorem zw_1224 : Cond.methodLink "FootprintRulesModel" 165 ⟨"FootprintRulesModel", "addPad", "(IJJJJZJ)V"⟩ ∈ zT := zm 1224 (by decide +kernel) (by decide +kernel)
theorem zw_1226 : Cond.instanceMethod ⟨"FootprintRulesModel", "addPad", "(IJJJJZJ)V"⟩ ∈ zT := zm 1226 (by decide +kernel) (by decide +kernel)
theorem zw_78 : Cond.selects "FootprintRulesModel" ⟨"FootprintRulesModel", "addPad", "(IJJJJZJ)V"⟩ ⟨"FootprintRulesModel", "addPad", "(IJJJJZJ)V"⟩ ∈ zT := zm 78 (by decide +kernel) (by decide +kernel)
theorem zw_1063 : Cond.fieldLink "FootprintRulesModel" 172 "FootprintRulesModel" "hasThermal" "Z" ∈ zT := zm 1063 (by decide +kernel) (by decide +kernel)
theorem zw_1245 : Cond.methodLink "FootprintRulesModel" 169 ⟨"FootprintRulesModel", "makeThermal", "(JJ)Z"⟩ ∈ zT := zm 1245 (by decide +kernel) (by decide +kernel)
theorem zw_1247 : Cond.instanceMethod ⟨"FootprintRulesModel", "makeThermal", "(JJ)Z"⟩ ∈ zT := zm 1247 (by decide +kernel) (by decide +kernel)
theorem zw_82 : Cond.selects "FootprintRulesModel" ⟨"FootprintRulesModel", "makeThermal", "(JJ)Z"⟩ ⟨"FootprintRulesModel", "makeThermal", "(JJ)Z"⟩ ∈ zT := zm 82 (by decide +kernel) (by decide +kernel)
theorem zw_1217 : Cond.constantLong "FootprintRulesModel" 175 8 ∈ zT := zm 1217 (by decide +kernel) (by decide +kernel)
theorem zw_1062 : Cond.fieldLink "FootprintRulesModel" 45 "FootprintRulesModel" "court" "[J" ∈ zT := zm 1062 (by decide +kernel) (by decide +kernel)
theorem zw_1254 : Cond.constantLong "FootprintRulesModel" 179 (-1000000000) ∈ zT := zm 1254 (by decide +kernel) (by decide +kernel)
theorem zw_1253 : Cond.constantLong "FootprintRulesModel" 177 1000000000 ∈ zT := zm 1253 (by decide +kernel) (by decide +kernel)
theorem zw_1255 : Cond.methodLink "FootprintRulesModel" 181 ⟨"FootprintRulesModel", "wider", "(JJJJ)V"⟩ ∈ zT := zm 1255 (by decide +kernel) (by decide +kernel)
theorem zw_1257 : Cond.instanceMethod ⟨"FootprintRulesModel", "wider", "(JJJJ)V"⟩ ∈ zT := zm 1257 (by decide +kernel) (by decide +kernel)
theorem zw_84 : Cond.selects "FootprintRulesModel" ⟨"FootprintRulesModel", "wider", "(JJJJ)V"⟩ ⟨"FootprintRulesModel", "wider", "(JJJJ)V"⟩ ∈ zT := zm 84 (by decide +kernel) (by decide +kernel)
theorem zw_1237 : Cond.methodLink "FootprintRulesModel" 192 ⟨"FootprintRulesModel", "makeSides", "(IJ)Z"⟩ ∈ zT := zm 1237 (by decide +kernel) (by decide +kernel)
theorem zw_1239 : Cond.instanceMethod ⟨"FootprintRulesModel", "makeSides", "(IJ)Z"⟩ ∈ zT := zm 1239 (by decide +kernel) (by decide +kernel)
theorem zw_81 : Cond.selects "FootprintRulesModel" ⟨"FootprintRulesModel", "makeSides", "(IJ)Z"⟩ ⟨"FootprintRulesModel", "makeSides", "(IJ)Z"⟩ ∈ zT := zm 81 (by decide +kernel) (by decide +kernel)
theorem zw_1228 : Cond.methodLink "FootprintRulesModel" 189 ⟨"FootprintRulesModel", "makeHoles", "(J)Z"⟩ ∈ zT := zm 1228 (by decide +kernel) (by decide +kernel)
theorem zw_1230 : Cond.instanceMethod ⟨"FootprintRulesModel", "makeHoles", "(J)Z"⟩ ∈ zT := zm 1230 (by decide +kernel) (by decide +kernel)
theorem zw_79 : Cond.selects "FootprintRulesModel" ⟨"FootprintRulesModel", "makeHoles", "(J)Z"⟩ ⟨"FootprintRulesModel", "makeHoles", "(J)Z"⟩ ∈ zT := zm 79 (by decide +kernel) (by decide +kernel)
theorem zw_1205 : Cond.methodLink "FootprintRulesModel" 185 ⟨"FootprintRulesModel", "makeBalls", "(J)Z"⟩ ∈ zT := zm 1205 (by decide +kernel) (by decide +kernel)
theorem zw_1207 : Cond.instanceMethod ⟨"FootprintRulesModel", "makeBalls", "(J)Z"⟩ ∈ zT := zm 1207 (by decide +kernel) (by decide +kernel)
theorem zw_75 : Cond.selects "FootprintRulesModel" ⟨"FootprintRulesModel", "makeBalls", "(J)Z"⟩ ⟨"FootprintRulesModel", "makeBalls", "(J)Z"⟩ ∈ zT := zm 75 (by decide +kernel) (by decide +kernel)
theorem zw_1249 : Cond.methodLink "FootprintRulesModel" 195 ⟨"FootprintRulesModel", "findCourt", "(J)V"⟩ ∈ zT := zm 1249 (by decide +kernel) (by decide +kernel)
theorem zw_1251 : Cond.instanceMethod ⟨"FootprintRulesModel", "findCourt", "(J)V"⟩ ∈ zT := zm 1251 (by decide +kernel) (by decide +kernel)
theorem zw_83 : Cond.selects "FootprintRulesModel" ⟨"FootprintRulesModel", "findCourt", "(J)V"⟩ ⟨"FootprintRulesModel", "findCourt", "(J)V"⟩ ∈ zT := zm 83 (by decide +kernel) (by decide +kernel)
theorem zw_1071 : Cond.fieldLink "FootprintRulesModel" 199 "FootprintRulesModel" "paste0" "J" ∈ zT := zm 1071 (by decide +kernel) (by decide +kernel)
theorem zw_1067 : Cond.fieldLink "FootprintRulesModel" 209 "FootprintRulesModel" "written" "I" ∈ zT := zm 1067 (by decide +kernel) (by decide +kernel)
theorem zw_1066 : Cond.fieldLink "FootprintRulesModel" 51 "FootprintRulesModel" "out" "[I" ∈ zT := zm 1066 (by decide +kernel) (by decide +kernel)
theorem zw_1263 : Cond.methodLink "FootprintRulesModel" 212 ⟨"FootprintRulesModel", "say", "(I)V"⟩ ∈ zT := zm 1263 (by decide +kernel) (by decide +kernel)
theorem zw_1265 : Cond.instanceMethod ⟨"FootprintRulesModel", "say", "(I)V"⟩ ∈ zT := zm 1265 (by decide +kernel) (by decide +kernel)
theorem zw_86 : Cond.selects "FootprintRulesModel" ⟨"FootprintRulesModel", "say", "(I)V"⟩ ⟨"FootprintRulesModel", "say", "(I)V"⟩ ∈ zT := zm 86 (by decide +kernel) (by decide +kernel)
theorem zw_1267 : Cond.methodLink "FootprintRulesModel" 216 ⟨"FootprintRulesModel", "sayNumber", "(J)V"⟩ ∈ zT := zm 1267 (by decide +kernel) (by decide +kernel)
theorem zw_1269 : Cond.instanceMethod ⟨"FootprintRulesModel", "sayNumber", "(J)V"⟩ ∈ zT := zm 1269 (by decide +kernel) (by decide +kernel)
theorem zw_87 : Cond.selects "FootprintRulesModel" ⟨"FootprintRulesModel", "sayNumber", "(J)V"⟩ ⟨"FootprintRulesModel", "sayNumber", "(J)V"⟩ ∈ zT := zm 87 (by decide +kernel) (by decide +kernel)
theorem zw_1271 : Cond.constantLong "FootprintRulesModel" 219 1000 ∈ zT := zm 1271 (by decide +kernel) (by decide +kernel)
theorem zw_1065 : Cond.fieldLink "FootprintRulesModel" 221 "FootprintRulesModel" "titleSize" "I" ∈ zT := zm 1065 (by decide +kernel) (by decide +kernel)
theorem zw_1064 : Cond.fieldLink "FootprintRulesModel" 48 "FootprintRulesModel" "title" "[I" ∈ zT := zm 1064 (by decide +kernel) (by decide +kernel)
theorem zw_1259 : Cond.methodLink "FootprintRulesModel" 203 ⟨"FootprintRulesModel", "findName", "()V"⟩ ∈ zT := zm 1259 (by decide +kernel) (by decide +kernel)
theorem zw_1261 : Cond.instanceMethod ⟨"FootprintRulesModel", "findName", "()V"⟩ ∈ zT := zm 1261 (by decide +kernel) (by decide +kernel)
theorem zw_85 : Cond.selects "FootprintRulesModel" ⟨"FootprintRulesModel", "findName", "()V"⟩ ⟨"FootprintRulesModel", "findName", "()V"⟩ ∈ zT := zm 85 (by decide +kernel) (by decide +kernel)
theorem zw_1272 : Cond.methodLink "FootprintRulesModel" 206 ⟨"FootprintRulesModel", "findText", "()V"⟩ ∈ zT := zm 1272 (by decide +kernel) (by decide +kernel)
theorem zw_1274 : Cond.instanceMethod ⟨"FootprintRulesModel", "findText", "()V"⟩ ∈ zT := zm 1274 (by decide +kernel) (by decide +kernel)
theorem zw_88 : Cond.selects "FootprintRulesModel" ⟨"FootprintRulesModel", "findText", "()V"⟩ ⟨"FootprintRulesModel", "findText", "()V"⟩ ∈ zT := zm 88 (by decide +kernel) (by decide +kernel)
theorem zw_1280 : Cond.methodLink "FootprintRulesModel" 224 ⟨"FootprintRulesModel", "refusal", "(Z)I"⟩ ∈ zT := zm 1280 (by decide +kernel) (by decide +kernel)
theorem zw_1282 : Cond.instanceMethod ⟨"FootprintRulesModel", "refusal", "(Z)I"⟩ ∈ zT := zm 1282 (by decide +kernel) (by decide +kernel)
theorem zw_89 : Cond.selects "FootprintRulesModel" ⟨"FootprintRulesModel", "refusal", "(Z)I"⟩ ⟨"FootprintRulesModel", "refusal", "(Z)I"⟩ ∈ zT := zm 89 (by decide +kernel) (by decide +kernel)
theorem zw_1312 : Cond.methodLink "FootprintRulesModel" 228 ⟨"FootprintRulesModel", "width", "(JJ)J"⟩ ∈ zT := zm 1312 (by decide +kernel) (by decide +kernel)
theorem zw_1314 : Cond.instanceMethod ⟨"FootprintRulesModel", "width", "(JJ)J"⟩ ∈ zT := zm 1314 (by decide +kernel) (by decide +kernel)
theorem zw_92 : Cond.selects "FootprintRulesModel" ⟨"FootprintRulesModel", "width", "(JJ)J"⟩ ⟨"FootprintRulesModel", "width", "(JJ)J"⟩ ∈ zT := zm 92 (by decide +kernel) (by decide +kernel)
theorem zw_1304 : Cond.methodLink "FootprintRulesModel" 231 ⟨"FootprintRulesModel", "left", "(II)J"⟩ ∈ zT := zm 1304 (by decide +kernel) (by decide +kernel)
theorem zw_1306 : Cond.instanceMethod ⟨"FootprintRulesModel", "left", "(II)J"⟩ ∈ zT := zm 1306 (by decide +kernel) (by decide +kernel)
theorem zw_90 : Cond.selects "FootprintRulesModel" ⟨"FootprintRulesModel", "left", "(II)J"⟩ ⟨"FootprintRulesModel", "left", "(II)J"⟩ ∈ zT := zm 90 (by decide +kernel) (by decide +kernel)
theorem zw_1308 : Cond.methodLink "FootprintRulesModel" 234 ⟨"FootprintRulesModel", "columns", "(IJ)J"⟩ ∈ zT := zm 1308 (by decide +kernel) (by decide +kernel)
theorem zw_1310 : Cond.instanceMethod ⟨"FootprintRulesModel", "columns", "(IJ)J"⟩ ∈ zT := zm 1310 (by decide +kernel) (by decide +kernel)
theorem zw_91 : Cond.selects "FootprintRulesModel" ⟨"FootprintRulesModel", "columns", "(IJ)J"⟩ ⟨"FootprintRulesModel", "columns", "(IJ)J"⟩ ∈ zT := zm 91 (by decide +kernel) (by decide +kernel)
theorem zw_1316 : Cond.methodLink "FootprintRulesModel" 238 ⟨"FootprintRulesModel", "begin", "(JJJJ)J"⟩ ∈ zT := zm 1316 (by decide +kernel) (by decide +kernel)
theorem zw_1318 : Cond.instanceMethod ⟨"FootprintRulesModel", "begin", "(JJJJ)J"⟩ ∈ zT := zm 1318 (by decide +kernel) (by decide +kernel)
theorem zw_93 : Cond.selects "FootprintRulesModel" ⟨"FootprintRulesModel", "begin", "(JJJJ)J"⟩ ⟨"FootprintRulesModel", "begin", "(JJJJ)J"⟩ ∈ zT := zm 93 (by decide +kernel) (by decide +kernel)
-- FootprintRulesModel.thrown()I
abbrev w_M_thrown (ad : Nat → Nat → Nat) (a_this : Nat) (a_units : Nat) (a_kinds : Nat) (a_values : Nat) (a_names : Nat) (a_low : Nat) (a_high : Nat) (a_told : Nat) (a_leftOut : Nat) (a_isMade : Nat) (a_hands : Nat) (a_pad : Nat) (a_court : Nat) (a_title : Nat) (a_out : Nat)  (v_this_thrown : Int32) (v_this_size : Int32) (v_this_families : Int32) (v_this_atHand : Int32) (v_this_family : Int32) (v_this_density : Int32) (v_this_pads : Int32) (v_this_hasThermal : Int32) (v_this_titleSize : Int32) (v_this_written : Int32) (v_this_at : Int32) (v_this_begin : Int32) (v_this_words : Int32) (v_this_paste0 : Int64) : va_W := [(a_this, .inr (10, [.int v_this_thrown, .ref a_units, .int v_this_size, .int v_this_families, .ref a_kinds, .ref a_values, .ref a_names, .ref a_low, .ref a_high, .ref a_told, .ref a_leftOut, .ref a_isMade, .ref a_hands, .int v_this_atHand, .int v_this_family, .int v_this_density, .int v_this_pads, .ref a_pad, .ref a_court, .int v_this_hasThermal, .ref a_title, .int v_this_titleSize, .ref a_out, .int v_this_written, .int v_this_at, .int v_this_begin, .int v_this_words, .long v_this_paste0]))]
def P_M_thrown (v_this_thrown : Int32) (post : Int32 → Prop) : Prop := post v_this_thrown
set_option maxHeartbeats 4000000 in
set_option maxRecDepth 100000 in
theorem c_M_thrown (l : Launch) (dC : Nat → ClassId) (dI : Nat → Nat → Nat) (ad : Nat → Nat → Nat) (a_this : Nat) (a_units : Nat) (a_kinds : Nat) (a_values : Nat) (a_names : Nat) (a_low : Nat) (a_high : Nat) (a_told : Nat) (a_leftOut : Nat) (a_isMade : Nat) (a_hands : Nat) (a_pad : Nat) (a_court : Nat) (a_title : Nat) (a_out : Nat)  (sz : Nat) (v_this_thrown : Int32) (v_this_size : Int32) (v_this_families : Int32) (v_this_atHand : Int32) (v_this_family : Int32) (v_this_density : Int32) (v_this_pads : Int32) (v_this_hasThermal : Int32) (v_this_titleSize : Int32) (v_this_written : Int32) (v_this_at : Int32) (v_this_begin : Int32) (v_this_words : Int32) (v_this_paste0 : Int64) (post : Int32 → Prop) (h : P_M_thrown v_this_thrown post) : zMi l yM_thrown wsM_thrown { frames := 0, cells := 0, slots := 0, locals := 0 } (dC, dI) ad [.ref a_this] (w_M_thrown ad a_this a_units a_kinds a_values a_names a_low a_high a_told a_leftOut a_isMade a_hands a_pad a_court a_title a_out v_this_thrown v_this_size v_this_families v_this_atHand v_this_family v_this_density v_this_pads v_this_hasThermal v_this_titleSize v_this_written v_this_at v_this_begin v_this_words v_this_paste0) [] sz (fun (r : Int32) (u : Unit) => post r) (fun (u : Unit) => (w_M_thrown ad a_this a_units a_kinds a_values a_names a_low a_high a_told a_leftOut a_isMade a_hands a_pad a_court a_title a_out v_this_thrown v_this_size v_this_families v_this_atHand v_this_family v_this_density v_this_pads v_this_hasThermal v_this_titleSize v_this_written v_this_at v_this_begin v_this_words v_this_paste0)) 0 0 := by
  refine Met.ofW (cc := cM_thrown) (maxL := 1) (ret := (some .int)) (by decide +kernel) rfl ?_
  intro p e s m args below meth c s₁ B hml hv
  obtain ⟨rfl, hsz, hP, hK, hD0, hE⟩ := hv
  have hx := B.exec
  have hb := B.bytes
  have hr := B.returns
  have hts0 := atoms_spec (ws := wsM_thrown) B.pre
  have hts := fun w h => hts0 w (List.mem_cons_of_mem _ h)
  have hown : s.vm.findClass RM = some m.cls := findClass_of_methodNamed B.named
  have hlocks := B.notSynchronized
  subst hsz
  have hD := hD0.self (sz := s.heap.size)
  generalize hAe : va_A (w_M_thrown ad a_this a_units a_kinds a_values a_names a_low a_high a_told a_leftOut a_isMade a_hands a_pad a_court a_title a_out v_this_thrown v_this_size v_this_families v_this_atHand v_this_family v_this_density v_this_pads v_this_hasThermal v_this_titleSize v_this_written v_this_at v_this_begin v_this_words v_this_paste0) s.heap.size = A at hD hE ⊢
  have hA : ∀ q : Nat, s.heap.size ≤ q → A q := fun q h => by rw [← hAe]; exact Or.inr h
  have C0 := zC.mk hx hb hr hml hown hts hlocks hA
  have hS : va_S A s.heap s.heap [] := va_S.rf
  have hl := lv_entry ([.ref a_this]) (n := 1) (Nat.le_of_ble_eq_true rfl)
  rw [lg_entry_eq]
  generalize (lg_sl ([.ref a_this]) ++ List.replicate (1 - (lg_sl ([.ref a_this])).length) Slot.unset).toArray = ls at hl ⊢
  have hl : lv_has ls 1 [(0, .ref a_this)] := hl
  unfold P_M_thrown at h
  refine lv_aload_n hx hb dM_thrown_0 rfl (lv_at hl 0 rfl) ?_
  refine va_get (D := (dC, dI)) (ci := 10) (v := .int v_this_thrown) (C := RM) (T := TM) (N := 28) hx hb hts inZ_M hown hK hP 0 rfl rfl 0 (by decide) (hts _ zw_1044) (fun _ h9 => h9) rfl dM_thrown_1 ?_
  exact W.iret (v := v_this_thrown) hx hb hr (fun t ht hW => ⟨⟨v_this_thrown, (()), rfl, h, by rw [ht]; exact hP, hD⟩, hS.F ht⟩) hS.2.2 dM_thrown_4
abbrev yM_unit : MethodName := ⟨"FootprintRulesModel", "unit", "(I)Z"⟩
abbrev cM_unit : ByteArray := prog_14_method_3_code
abbrev wsM_unit : List Cond := .code yM_unit cM_unit 3 (some .boolean) :: zT
set_option maxRecDepth 100000 in
theorem zc_M_unit : Cond.code yM_unit cM_unit 3 (some .boolean) ∈ zT := zm 1136 (by rfl) (by rfl)
theorem dM_unit_0 : decode cM_unit 0 = .ok (.aload_n 0, 1) := by decide +kernel
theorem dM_unit_1 : decode cM_unit 1 = .ok (.iconst 0, 1) := by decide +kernel
theorem dM_unit_2 : decode cM_unit 2 = .ok (.putfield 54, 3) := by decide +kernel
theorem dM_unit_5 : decode cM_unit 5 = .ok (.iload_n 1, 1) := by decide +kernel
theorem dM_unit_6 : decode cM_unit 6 = .ok (.bipush 32, 2) := by decide +kernel
theorem dM_unit_8 : decode cM_unit 8 = .ok (.if_icmp .lt 9, 3) := by decide +kernel
theorem dM_unit_11 : decode cM_unit 11 = .ok (.iload_n 1, 1) := by decide +kernel
theorem dM_unit_12 : decode cM_unit 12 = .ok (.bipush 126, 2) := by decide +kernel
theorem dM_unit_14 : decode cM_unit 14 = .ok (.if_icmp .le 9, 3) := by decide +kernel
theorem dM_unit_17 : decode cM_unit 17 = .ok (.iload_n 1, 1) := by decide +kernel
theorem dM_unit_18 : decode cM_unit 18 = .ok (.bipush 10, 2) := by decide +kernel
theorem dM_unit_20 : decode cM_unit 20 = .ok (.if_icmp .ne 7, 3) := by decide +kernel
theorem dM_unit_23 : decode cM_unit 23 = .ok (.iconst 1, 1) := by decide +kernel
theorem dM_unit_24 : decode cM_unit 24 = .ok (.goto 4, 3) := by decide +kernel
theorem dM_unit_27 : decode cM_unit 27 = .ok (.iconst 0, 1) := by decide +kernel
theorem dM_unit_28 : decode cM_unit 28 = .ok (.istore_n 2, 1) := by decide +kernel
theorem dM_unit_29 : decode cM_unit 29 = .ok (.iload_n 2, 1) := by decide +kernel
theorem dM_unit_30 : decode cM_unit 30 = .ok (.ifCond .eq 13, 3) := by decide +kernel
theorem dM_unit_33 : decode cM_unit 33 = .ok (.aload_n 0, 1) := by decide +kernel
theorem dM_unit_34 : decode cM_unit 34 = .ok (.getfield 58, 3) := by decide +kernel
theorem dM_unit_37 : decode cM_unit 37 = .ok (.sipush 600, 3) := by decide +kernel
theorem dM_unit_40 : decode cM_unit 40 = .ok (.if_icmp .ne 5, 3) := by decide +kernel
theorem dM_unit_43 : decode cM_unit 43 = .ok (.iconst 0, 1) := by decide +kernel
theorem dM_unit_44 : decode cM_unit 44 = .ok (.ireturn, 1) := by decide +kernel
theorem dM_unit_45 : decode cM_unit 45 = .ok (.aload_n 0, 1) := by decide +kernel
theorem dM_unit_46 : decode cM_unit 46 = .ok (.getfield 7, 3) := by decide +kernel
theorem dM_unit_49 : decode cM_unit 49 = .ok (.aload_n 0, 1) := by decide +kernel
theorem dM_unit_50 : decode cM_unit 50 = .ok (.getfield 58, 3) := by decide +kernel
theorem dM_unit_53 : decode cM_unit 53 = .ok (.iload_n 1, 1) := by decide +kernel
theorem dM_unit_54 : decode cM_unit 54 = .ok (.iastore, 1) := by decide +kernel
theorem dM_unit_55 : decode cM_unit 55 = .ok (.aload_n 0, 1) := by decide +kernel
theorem dM_unit_56 : decode cM_unit 56 = .ok (.dup, 1) := by decide +kernel
theorem dM_unit_57 : decode cM_unit 57 = .ok (.getfield 58, 3) := by decide +kernel
theorem dM_unit_60 : decode cM_unit 60 = .ok (.iconst 1, 1) := by decide +kernel
theorem dM_unit_61 : decode cM_unit 61 = .ok (.iadd, 1) := by decide +kernel
theorem dM_unit_62 : decode cM_unit 62 = .ok (.putfield 58, 3) := by decide +kernel
theorem dM_unit_65 : decode cM_unit 65 = .ok (.iconst 1, 1) := by decide +kernel
theorem dM_unit_66 : decode cM_unit 66 = .ok (.ireturn, 1) := by decide +kernel
-- FootprintRulesModel.unit(I)Z
abbrev w_M_unit (ad : Nat → Nat → Nat) (a_this : Nat) (a_units : Nat) (a_kinds : Nat) (a_values : Nat) (a_names : Nat) (a_low : Nat) (a_high : Nat) (a_told : Nat) (a_leftOut : Nat) (a_isMade : Nat) (a_hands : Nat) (a_pad : Nat) (a_court : Nat) (a_title : Nat) (a_out : Nat) (k_units : ClassId) (v_this_thrown : Int32) (v_this_size : Int32) (v_this_families : Int32) (v_this_atHand : Int32) (v_this_family : Int32) (v_this_density : Int32) (v_this_pads : Int32) (v_this_hasThermal : Int32) (v_this_titleSize : Int32) (v_this_written : Int32) (v_this_at : Int32) (v_this_begin : Int32) (v_this_words : Int32) (v_this_paste0 : Int64) (v_units : Nat → Int32) : va_W := [(a_this, .inr (10, [.int v_this_thrown, .ref a_units, .int v_this_size, .int v_this_families, .ref a_kinds, .ref a_values, .ref a_names, .ref a_low, .ref a_high, .ref a_told, .ref a_leftOut, .ref a_isMade, .ref a_hands, .int v_this_atHand, .int v_this_family, .int v_this_density, .int v_this_pads, .ref a_pad, .ref a_court, .int v_this_hasThermal, .ref a_title, .int v_this_titleSize, .ref a_out, .int v_this_written, .int v_this_at, .int v_this_begin, .int v_this_words, .long v_this_paste0])), (a_units, .inl (k_units, 600, .inl v_units))]
def P_M_unit_28 (p1 : Int32) (v_this_size : Int32) (v_units : Nat → Int32) (post : Int32 → Int32 → Int32 → (Nat → Int32) → Prop) (t0 : Int32) (u_this_thrown : Int32) : Prop := ((t0 = 0 → post 0 u_this_thrown v_this_size v_units) ∧ (¬ t0 = 0 → ((¬ v_this_size = 600 → vp_in v_this_size 600 ∧ ∀ x4 : Int32, x4 = v_this_size + 1 → post 1 u_this_thrown x4 (upd v_units v_this_size.toNatClampNeg p1)) ∧ (v_this_size = 600 → post 0 u_this_thrown v_this_size v_units))))
set_option maxHeartbeats 4000000 in
set_option maxRecDepth 100000 in
theorem w_M_unit_28 (l : Launch) {p : Program} {e : Env} {s : State} {m : MethodId} {args : Array Value} {below : List Frame} {meth : Method} {c : Code} {dC : Nat → ClassId} {dI : Nat → Nat → Nat} {ad : Nat → Nat → Nat} {A : Nat → Prop} (C0 : zC p s m args meth c cM_unit 3 RM zT (some .boolean) A) (hE : zE ad A s) (a_this : Nat) (a_units : Nat) (a_kinds : Nat) (a_values : Nat) (a_names : Nat) (a_low : Nat) (a_high : Nat) (a_told : Nat) (a_leftOut : Nat) (a_isMade : Nat) (a_hands : Nat) (a_pad : Nat) (a_court : Nat) (a_title : Nat) (a_out : Nat) (k_units : ClassId) (p1 : Int32) (v_this_thrown : Int32) (v_this_size : Int32) (v_this_families : Int32) (v_this_atHand : Int32) (v_this_family : Int32) (v_this_density : Int32) (v_this_pads : Int32) (v_this_hasThermal : Int32) (v_this_titleSize : Int32) (v_this_written : Int32) (v_this_at : Int32) (v_this_begin : Int32) (v_this_words : Int32) (v_this_paste0 : Int64) (v_units : Nat → Int32) (post : Int32 → Int32 → Int32 → (Nat → Int32) → Prop) (hK : va_K (dC, dI) vwCl [(k_units, .int)] s) : ∀ (t0 : Int32) (u_this_thrown : Int32) (H : Heap) (locs : List Loc), P_M_unit_28 p1 v_this_size v_units post t0 u_this_thrown → va_P (dC, dI) vwCl (w_M_unit ad a_this a_units a_kinds a_values a_names a_low a_high a_told a_leftOut a_isMade a_hands a_pad a_court a_title a_out k_units u_this_thrown v_this_size v_this_families v_this_atHand v_this_family v_this_density v_this_pads v_this_hasThermal v_this_titleSize v_this_written v_this_at v_this_begin v_this_words v_this_paste0 v_units) H → va_D A (w_M_unit ad a_this a_units a_kinds a_values a_names a_low a_high a_told a_leftOut a_isMade a_hands a_pad a_court a_title a_out k_units u_this_thrown v_this_size v_this_families v_this_atHand v_this_family v_this_density v_this_pads v_this_hasThermal v_this_titleSize v_this_written v_this_at v_this_begin v_this_words v_this_paste0 v_units) → va_S A s.heap H locs → ∀ ls : Array Slot, lv_has ls 3 [(0, .ref a_this), (1, .int p1)] → W p l e (headSpec wsM_unit { frames := 0, cells := 0, slots := 0, locals := 0 }).room s m args below meth c H locs 0 0 (MQ below (va_Qi (fun (r : Int32) (u : Int32 × Int32 × (Nat → Int32)) => post r u.1 u.2.1 u.2.2) (zB (dC, dI) A (fun (u : Int32 × Int32 × (Nat → Int32)) => (w_M_unit ad a_this a_units a_kinds a_values a_names a_low a_high a_told a_leftOut a_isMade a_hands a_pad a_court a_title a_out k_units u.1 u.2.1 v_this_families v_this_atHand v_this_family v_this_density v_this_pads v_this_hasThermal v_this_titleSize v_this_written v_this_at v_this_begin v_this_words v_this_paste0 u.2.2))) A) args s 0 0 A) (F0 m 28 ls [.int t0]) := by
  obtain ⟨hx, hb, hr, hml, hown, hts, hlocks, hA⟩ := id C0
  intro t0 u_this_thrown H locs h hP hD hS ls hl
  unfold P_M_unit_28 at h
  refine lv_istore_n (lv' := [(2, .int t0), (0, .ref a_this), (1, .int p1)]) hx hb dM_unit_28 rfl hl (by decide) rfl (fun ls hl => ?_)
  refine lv_iload_n hx hb dM_unit_29 rfl (lv_at hl 0 rfl) ?_
  refine lv_if_eq (tgt := 43) hx hb dM_unit_30 (by decide) ?_ ?_
  · intro c1
    replace h := h.1 c1
    refine lv_iconst (v := 0) hx hb dM_unit_43 (by decide) ?_
    exact W.zret (v := 0) hx hb hr rfl (fun t ht hW => ⟨⟨0, (u_this_thrown, v_this_size, v_units), rfl, h, by rw [ht]; exact hP, hD⟩, hS.F ht⟩) hS.2.2 dM_unit_44
  · intro c1
    replace h := h.2 c1
    refine lv_aload_n hx hb dM_unit_33 rfl (lv_at hl 1 rfl) ?_
    refine va_get (D := (dC, dI)) (ci := 10) (v := .int v_this_size) (C := RM) (T := TM) (N := 28) hx hb hts inZ_M hown hK hP 0 rfl rfl 2 (by decide) (hts _ zw_1046) (fun _ h9 => h9) rfl dM_unit_34 ?_
    refine lv_sipush (v := 600) hx hb dM_unit_37 (by decide) ?_
    refine lv_icmp_ne (tgt := 45) hx hb dM_unit_40 (by decide) ?_ ?_
    · intro c2
      replace h := h.1 c2
      refine lv_aload_n hx hb dM_unit_45 rfl (lv_at hl 1 rfl) ?_
      refine va_get (D := (dC, dI)) (ci := 10) (v := .ref a_units) (C := RM) (T := TM) (N := 28) hx hb hts inZ_M hown hK hP 0 rfl rfl 1 (by decide) (hts _ zw_1045) (fun _ h9 => h9) rfl dM_unit_46 ?_
      refine lv_aload_n hx hb dM_unit_49 rfl (lv_at hl 1 rfl) ?_
      refine va_get (D := (dC, dI)) (ci := 10) (v := .int v_this_size) (C := RM) (T := TM) (N := 28) hx hb hts inZ_M hown hK hP 0 rfl rfl 2 (by decide) (hts _ zw_1046) (fun _ h9 => h9) rfl dM_unit_50 ?_
      refine lv_iload_n hx hb dM_unit_53 rfl (lv_at hl 2 rfl) ?_
      obtain ⟨hn3, h⟩ := h
      refine va_iast hx hb hK hP hD hS 1 0 rfl rfl hn3 dM_unit_54 (fun H locs hP hD hS => ?_)
      have hP : va_P (dC, dI) vwCl (w_M_unit ad a_this a_units a_kinds a_values a_names a_low a_high a_told a_leftOut a_isMade a_hands a_pad a_court a_title a_out k_units u_this_thrown v_this_size v_this_families v_this_atHand v_this_family v_this_density v_this_pads v_this_hasThermal v_this_titleSize v_this_written v_this_at v_this_begin v_this_words v_this_paste0 (upd v_units v_this_size.toNatClampNeg p1)) H := hP
      have hD : va_D A (w_M_unit ad a_this a_units a_kinds a_values a_names a_low a_high a_told a_leftOut a_isMade a_hands a_pad a_court a_title a_out k_units u_this_thrown v_this_size v_this_families v_this_atHand v_this_family v_this_density v_this_pads v_this_hasThermal v_this_titleSize v_this_written v_this_at v_this_begin v_this_words v_this_paste0 (upd v_units v_this_size.toNatClampNeg p1)) := hD
      refine lv_aload_n hx hb dM_unit_55 rfl (lv_at hl 1 rfl) ?_
      refine lv_dup hx hb dM_unit_56 rfl ?_
      refine va_get (D := (dC, dI)) (ci := 10) (v := .int v_this_size) (C := RM) (T := TM) (N := 28) hx hb hts inZ_M hown hK hP 0 rfl rfl 2 (by decide) (hts _ zw_1046) (fun _ h9 => h9) rfl dM_unit_57 ?_
      refine lv_iconst (v := 1) hx hb dM_unit_60 (by decide) ?_
      refine lv_iadd hx hb dM_unit_61 ?_
      refine lv_topi (fun x4 ex4 => ?_)
      replace h := h x4 ex4
      refine va_put (D := (dC, dI)) (ci := 10) (v := .int x4) (ty := .int) (C := RM) (T := TM) (N := 28) hx hb hts inZ_M tyM tyM_ok nmM hown hK hP hD hS 0 rfl rfl 2 (by decide) (hts _ zw_1046) (fun _ h9 => h9) rfl (by decide +kernel) rfl rfl (Nat.le_of_ble_eq_true rfl) dM_unit_62 (fun H locs hP hD hS => ?_)
      have hP : va_P (dC, dI) vwCl (w_M_unit ad a_this a_units a_kinds a_values a_names a_low a_high a_told a_leftOut a_isMade a_hands a_pad a_court a_title a_out k_units u_this_thrown x4 v_this_families v_this_atHand v_this_family v_this_density v_this_pads v_this_hasThermal v_this_titleSize v_this_written v_this_at v_this_begin v_this_words v_this_paste0 (upd v_units v_this_size.toNatClampNeg p1)) H := hP
      have hD : va_D A (w_M_unit ad a_this a_units a_kinds a_values a_names a_low a_high a_told a_leftOut a_isMade a_hands a_pad a_court a_title a_out k_units u_this_thrown x4 v_this_families v_this_atHand v_this_family v_this_density v_this_pads v_this_hasThermal v_this_titleSize v_this_written v_this_at v_this_begin v_this_words v_this_paste0 (upd v_units v_this_size.toNatClampNeg p1)) := hD
      refine lv_iconst (v := 1) hx hb dM_unit_65 (by decide) ?_
      exact W.zret (v := 1) hx hb hr rfl (fun t ht hW => ⟨⟨1, (u_this_thrown, x4, (upd v_units v_this_size.toNatClampNeg p1)), rfl, h, by rw [ht]; exact hP, hD⟩, hS.F ht⟩) hS.2.2 dM_unit_66
    · intro c2
      replace h := h.2 c2
      refine lv_iconst (v := 0) hx hb dM_unit_43 (by decide) ?_
      exact W.zret (v := 0) hx hb hr rfl (fun t ht hW => ⟨⟨0, (u_this_thrown, v_this_size, v_units), rfl, h, by rw [ht]; exact hP, hD⟩, hS.F ht⟩) hS.2.2 dM_unit_44
def P_M_unit_23 (p1 : Int32) (v_this_size : Int32) (v_units : Nat → Int32) (post : Int32 → Int32 → Int32 → (Nat → Int32) → Prop) (u_this_thrown : Int32) : Prop := P_M_unit_28 p1 v_this_size v_units post 1 u_this_thrown
set_option maxHeartbeats 4000000 in
set_option maxRecDepth 100000 in
theorem w_M_unit_23 (l : Launch) {p : Program} {e : Env} {s : State} {m : MethodId} {args : Array Value} {below : List Frame} {meth : Method} {c : Code} {dC : Nat → ClassId} {dI : Nat → Nat → Nat} {ad : Nat → Nat → Nat} {A : Nat → Prop} (C0 : zC p s m args meth c cM_unit 3 RM zT (some .boolean) A) (hE : zE ad A s) (a_this : Nat) (a_units : Nat) (a_kinds : Nat) (a_values : Nat) (a_names : Nat) (a_low : Nat) (a_high : Nat) (a_told : Nat) (a_leftOut : Nat) (a_isMade : Nat) (a_hands : Nat) (a_pad : Nat) (a_court : Nat) (a_title : Nat) (a_out : Nat) (k_units : ClassId) (p1 : Int32) (v_this_thrown : Int32) (v_this_size : Int32) (v_this_families : Int32) (v_this_atHand : Int32) (v_this_family : Int32) (v_this_density : Int32) (v_this_pads : Int32) (v_this_hasThermal : Int32) (v_this_titleSize : Int32) (v_this_written : Int32) (v_this_at : Int32) (v_this_begin : Int32) (v_this_words : Int32) (v_this_paste0 : Int64) (v_units : Nat → Int32) (post : Int32 → Int32 → Int32 → (Nat → Int32) → Prop) (hK : va_K (dC, dI) vwCl [(k_units, .int)] s) : ∀ (u_this_thrown : Int32) (H : Heap) (locs : List Loc), P_M_unit_23 p1 v_this_size v_units post u_this_thrown → va_P (dC, dI) vwCl (w_M_unit ad a_this a_units a_kinds a_values a_names a_low a_high a_told a_leftOut a_isMade a_hands a_pad a_court a_title a_out k_units u_this_thrown v_this_size v_this_families v_this_atHand v_this_family v_this_density v_this_pads v_this_hasThermal v_this_titleSize v_this_written v_this_at v_this_begin v_this_words v_this_paste0 v_units) H → va_D A (w_M_unit ad a_this a_units a_kinds a_values a_names a_low a_high a_told a_leftOut a_isMade a_hands a_pad a_court a_title a_out k_units u_this_thrown v_this_size v_this_families v_this_atHand v_this_family v_this_density v_this_pads v_this_hasThermal v_this_titleSize v_this_written v_this_at v_this_begin v_this_words v_this_paste0 v_units) → va_S A s.heap H locs → ∀ ls : Array Slot, lv_has ls 3 [(0, .ref a_this), (1, .int p1)] → W p l e (headSpec wsM_unit { frames := 0, cells := 0, slots := 0, locals := 0 }).room s m args below meth c H locs 0 0 (MQ below (va_Qi (fun (r : Int32) (u : Int32 × Int32 × (Nat → Int32)) => post r u.1 u.2.1 u.2.2) (zB (dC, dI) A (fun (u : Int32 × Int32 × (Nat → Int32)) => (w_M_unit ad a_this a_units a_kinds a_values a_names a_low a_high a_told a_leftOut a_isMade a_hands a_pad a_court a_title a_out k_units u.1 u.2.1 v_this_families v_this_atHand v_this_family v_this_density v_this_pads v_this_hasThermal v_this_titleSize v_this_written v_this_at v_this_begin v_this_words v_this_paste0 u.2.2))) A) args s 0 0 A) (F0 m 23 ls []) := by
  obtain ⟨hx, hb, hr, hml, hown, hts, hlocks, hA⟩ := id C0
  intro u_this_thrown H locs h hP hD hS ls hl
  unfold P_M_unit_23 at h
  refine lv_iconst (v := 1) hx hb dM_unit_23 (by decide) ?_
  refine lv_goto (tgt := 28) hx hb dM_unit_24 (by decide) ?_
  exact w_M_unit_28 l C0 hE a_this a_units a_kinds a_values a_names a_low a_high a_told a_leftOut a_isMade a_hands a_pad a_court a_title a_out k_units p1 v_this_thrown v_this_size v_this_families v_this_atHand v_this_family v_this_density v_this_pads v_this_hasThermal v_this_titleSize v_this_written v_this_at v_this_begin v_this_words v_this_paste0 v_units post hK 1 u_this_thrown _ _ h hP hD hS ls (lv_sub hl [0, 1] rfl)
def P_M_unit_17 (p1 : Int32) (v_this_size : Int32) (v_units : Nat → Int32) (post : Int32 → Int32 → Int32 → (Nat → Int32) → Prop) (u_this_thrown : Int32) : Prop := ((¬ p1 = 10 → P_M_unit_28 p1 v_this_size v_units post 0 u_this_thrown) ∧ (p1 = 10 → P_M_unit_23 p1 v_this_size v_units post u_this_thrown))
set_option maxHeartbeats 4000000 in
set_option maxRecDepth 100000 in
theorem w_M_unit_17 (l : Launch) {p : Program} {e : Env} {s : State} {m : MethodId} {args : Array Value} {below : List Frame} {meth : Method} {c : Code} {dC : Nat → ClassId} {dI : Nat → Nat → Nat} {ad : Nat → Nat → Nat} {A : Nat → Prop} (C0 : zC p s m args meth c cM_unit 3 RM zT (some .boolean) A) (hE : zE ad A s) (a_this : Nat) (a_units : Nat) (a_kinds : Nat) (a_values : Nat) (a_names : Nat) (a_low : Nat) (a_high : Nat) (a_told : Nat) (a_leftOut : Nat) (a_isMade : Nat) (a_hands : Nat) (a_pad : Nat) (a_court : Nat) (a_title : Nat) (a_out : Nat) (k_units : ClassId) (p1 : Int32) (v_this_thrown : Int32) (v_this_size : Int32) (v_this_families : Int32) (v_this_atHand : Int32) (v_this_family : Int32) (v_this_density : Int32) (v_this_pads : Int32) (v_this_hasThermal : Int32) (v_this_titleSize : Int32) (v_this_written : Int32) (v_this_at : Int32) (v_this_begin : Int32) (v_this_words : Int32) (v_this_paste0 : Int64) (v_units : Nat → Int32) (post : Int32 → Int32 → Int32 → (Nat → Int32) → Prop) (hK : va_K (dC, dI) vwCl [(k_units, .int)] s) : ∀ (u_this_thrown : Int32) (H : Heap) (locs : List Loc), P_M_unit_17 p1 v_this_size v_units post u_this_thrown → va_P (dC, dI) vwCl (w_M_unit ad a_this a_units a_kinds a_values a_names a_low a_high a_told a_leftOut a_isMade a_hands a_pad a_court a_title a_out k_units u_this_thrown v_this_size v_this_families v_this_atHand v_this_family v_this_density v_this_pads v_this_hasThermal v_this_titleSize v_this_written v_this_at v_this_begin v_this_words v_this_paste0 v_units) H → va_D A (w_M_unit ad a_this a_units a_kinds a_values a_names a_low a_high a_told a_leftOut a_isMade a_hands a_pad a_court a_title a_out k_units u_this_thrown v_this_size v_this_families v_this_atHand v_this_family v_this_density v_this_pads v_this_hasThermal v_this_titleSize v_this_written v_this_at v_this_begin v_this_words v_this_paste0 v_units) → va_S A s.heap H locs → ∀ ls : Array Slot, lv_has ls 3 [(0, .ref a_this), (1, .int p1)] → W p l e (headSpec wsM_unit { frames := 0, cells := 0, slots := 0, locals := 0 }).room s m args below meth c H locs 0 0 (MQ below (va_Qi (fun (r : Int32) (u : Int32 × Int32 × (Nat → Int32)) => post r u.1 u.2.1 u.2.2) (zB (dC, dI) A (fun (u : Int32 × Int32 × (Nat → Int32)) => (w_M_unit ad a_this a_units a_kinds a_values a_names a_low a_high a_told a_leftOut a_isMade a_hands a_pad a_court a_title a_out k_units u.1 u.2.1 v_this_families v_this_atHand v_this_family v_this_density v_this_pads v_this_hasThermal v_this_titleSize v_this_written v_this_at v_this_begin v_this_words v_this_paste0 u.2.2))) A) args s 0 0 A) (F0 m 17 ls []) := by
  obtain ⟨hx, hb, hr, hml, hown, hts, hlocks, hA⟩ := id C0
  intro u_this_thrown H locs h hP hD hS ls hl
  unfold P_M_unit_17 at h
  refine lv_iload_n hx hb dM_unit_17 rfl (lv_at hl 1 rfl) ?_
  refine lv_bipush (v := 10) hx hb dM_unit_18 (by decide) ?_
  refine lv_icmp_ne (tgt := 27) hx hb dM_unit_20 (by decide) ?_ ?_
  · intro c1
    replace h := h.1 c1
    refine lv_iconst (v := 0) hx hb dM_unit_27 (by decide) ?_
    exact w_M_unit_28 l C0 hE a_this a_units a_kinds a_values a_names a_low a_high a_told a_leftOut a_isMade a_hands a_pad a_court a_title a_out k_units p1 v_this_thrown v_this_size v_this_families v_this_atHand v_this_family v_this_density v_this_pads v_this_hasThermal v_this_titleSize v_this_written v_this_at v_this_begin v_this_words v_this_paste0 v_units post hK 0 u_this_thrown _ _ h hP hD hS ls (lv_sub hl [0, 1] rfl)
  · intro c1
    replace h := h.2 c1
    exact w_M_unit_23 l C0 hE a_this a_units a_kinds a_values a_names a_low a_high a_told a_leftOut a_isMade a_hands a_pad a_court a_title a_out k_units p1 v_this_thrown v_this_size v_this_families v_this_atHand v_this_family v_this_density v_this_pads v_this_hasThermal v_this_titleSize v_this_written v_this_at v_this_begin v_this_words v_this_paste0 v_units post hK u_this_thrown _ _ h hP hD hS ls (lv_sub hl [0, 1] rfl)
def P_M_unit (p1 : Int32) (v_this_size : Int32) (v_units : Nat → Int32) (post : Int32 → Int32 → Int32 → (Nat → Int32) → Prop) : Prop := ((p1 < 32 → P_M_unit_17 p1 v_this_size v_units post 0) ∧ (¬ p1 < 32 → ((p1 ≤ 126 → P_M_unit_23 p1 v_this_size v_units post 0) ∧ (¬ p1 ≤ 126 → P_M_unit_17 p1 v_this_size v_units post 0))))
set_option maxHeartbeats 4000000 in
set_option maxRecDepth 100000 in
theorem c_M_unit (l : Launch) (dC : Nat → ClassId) (dI : Nat → Nat → Nat) (ad : Nat → Nat → Nat) (a_this : Nat) (a_units : Nat) (a_kinds : Nat) (a_values : Nat) (a_names : Nat) (a_low : Nat) (a_high : Nat) (a_told : Nat) (a_leftOut : Nat) (a_isMade : Nat) (a_hands : Nat) (a_pad : Nat) (a_court : Nat) (a_title : Nat) (a_out : Nat) (k_units : ClassId) (sz : Nat) (p1 : Int32) (v_this_thrown : Int32) (v_this_size : Int32) (v_this_families : Int32) (v_this_atHand : Int32) (v_this_family : Int32) (v_this_density : Int32) (v_this_pads : Int32) (v_this_hasThermal : Int32) (v_this_titleSize : Int32) (v_this_written : Int32) (v_this_at : Int32) (v_this_begin : Int32) (v_this_words : Int32) (v_this_paste0 : Int64) (v_units : Nat → Int32) (post : Int32 → Int32 → Int32 → (Nat → Int32) → Prop) (h : P_M_unit p1 v_this_size v_units post) : zMi l yM_unit wsM_unit { frames := 0, cells := 0, slots := 0, locals := 0 } (dC, dI) ad [.ref a_this, .int p1] (w_M_unit ad a_this a_units a_kinds a_values a_names a_low a_high a_told a_leftOut a_isMade a_hands a_pad a_court a_title a_out k_units v_this_thrown v_this_size v_this_families v_this_atHand v_this_family v_this_density v_this_pads v_this_hasThermal v_this_titleSize v_this_written v_this_at v_this_begin v_this_words v_this_paste0 v_units) [(k_units, .int)] sz (fun (r : Int32) (u : Int32 × Int32 × (Nat → Int32)) => post r u.1 u.2.1 u.2.2) (fun (u : Int32 × Int32 × (Nat → Int32)) => (w_M_unit ad a_this a_units a_kinds a_values a_names a_low a_high a_told a_leftOut a_isMade a_hands a_pad a_court a_title a_out k_units u.1 u.2.1 v_this_families v_this_atHand v_this_family v_this_density v_this_pads v_this_hasThermal v_this_titleSize v_this_written v_this_at v_this_begin v_this_words v_this_paste0 u.2.2)) 0 0 := by
  refine Met.ofW (cc := cM_unit) (maxL := 3) (ret := (some .boolean)) (by decide +kernel) rfl ?_
  intro p e s m args below meth c s₁ B hml hv
  obtain ⟨rfl, hsz, hP, hK, hD0, hE⟩ := hv
  have hx := B.exec
  have hb := B.bytes
  have hr := B.returns
  have hts0 := atoms_spec (ws := wsM_unit) B.pre
  have hts := fun w h => hts0 w (List.mem_cons_of_mem _ h)
  have hown : s.vm.findClass RM = some m.cls := findClass_of_methodNamed B.named
  have hlocks := B.notSynchronized
  subst hsz
  have hD := hD0.self (sz := s.heap.size)
  generalize hAe : va_A (w_M_unit ad a_this a_units a_kinds a_values a_names a_low a_high a_told a_leftOut a_isMade a_hands a_pad a_court a_title a_out k_units v_this_thrown v_this_size v_this_families v_this_atHand v_this_family v_this_density v_this_pads v_this_hasThermal v_this_titleSize v_this_written v_this_at v_this_begin v_this_words v_this_paste0 v_units) s.heap.size = A at hD hE ⊢
  have hA : ∀ q : Nat, s.heap.size ≤ q → A q := fun q h => by rw [← hAe]; exact Or.inr h
  have C0 := zC.mk hx hb hr hml hown hts hlocks hA
  have hS : va_S A s.heap s.heap [] := va_S.rf
  have hl := lv_entry ([.ref a_this, .int p1]) (n := 3) (Nat.le_of_ble_eq_true rfl)
  rw [lg_entry_eq]
  generalize (lg_sl ([.ref a_this, .int p1]) ++ List.replicate (3 - (lg_sl ([.ref a_this, .int p1])).length) Slot.unset).toArray = ls at hl ⊢
  have hl : lv_has ls 3 [(0, .ref a_this), (1, .int p1)] := hl
  unfold P_M_unit at h
  refine lv_aload_n hx hb dM_unit_0 rfl (lv_at hl 0 rfl) ?_
  refine lv_iconst (v := 0) hx hb dM_unit_1 (by decide) ?_
  refine va_put (D := (dC, dI)) (ci := 10) (v := .int 0) (ty := .int) (C := RM) (T := TM) (N := 28) hx hb hts inZ_M tyM tyM_ok nmM hown hK hP hD hS 0 rfl rfl 0 (by decide) (hts _ zw_1044) (fun _ h9 => h9) rfl (by decide +kernel) rfl rfl (Nat.le_of_ble_eq_true rfl) dM_unit_2 (fun H locs hP hD hS => ?_)
  have hP : va_P (dC, dI) vwCl (w_M_unit ad a_this a_units a_kinds a_values a_names a_low a_high a_told a_leftOut a_isMade a_hands a_pad a_court a_title a_out k_units 0 v_this_size v_this_families v_this_atHand v_this_family v_this_density v_this_pads v_this_hasThermal v_this_titleSize v_this_written v_this_at v_this_begin v_this_words v_this_paste0 v_units) H := hP
  have hD : va_D A (w_M_unit ad a_this a_units a_kinds a_values a_names a_low a_high a_told a_leftOut a_isMade a_hands a_pad a_court a_title a_out k_units 0 v_this_size v_this_families v_this_atHand v_this_family v_this_density v_this_pads v_this_hasThermal v_this_titleSize v_this_written v_this_at v_this_begin v_this_words v_this_paste0 v_units) := hD
  refine lv_iload_n hx hb dM_unit_5 rfl (lv_at hl 1 rfl) ?_
  refine lv_bipush (v := 32) hx hb dM_unit_6 (by decide) ?_
  refine lv_icmp_lt (tgt := 17) hx hb dM_unit_8 (by decide) ?_ ?_
  · intro c1
    replace h := h.1 c1
    exact w_M_unit_17 l C0 hE a_this a_units a_kinds a_values a_names a_low a_high a_told a_leftOut a_isMade a_hands a_pad a_court a_title a_out k_units p1 v_this_thrown v_this_size v_this_families v_this_atHand v_this_family v_this_density v_this_pads v_this_hasThermal v_this_titleSize v_this_written v_this_at v_this_begin v_this_words v_this_paste0 v_units post hK 0 _ _ h hP hD hS ls (lv_sub hl [0, 1] rfl)
  · intro c1
    replace h := h.2 c1
    refine lv_iload_n hx hb dM_unit_11 rfl (lv_at hl 1 rfl) ?_
    refine lv_bipush (v := 126) hx hb dM_unit_12 (by decide) ?_
    refine lv_icmp_le (tgt := 23) hx hb dM_unit_14 (by decide) ?_ ?_
    · intro c2
      replace h := h.1 c2
      exact w_M_unit_23 l C0 hE a_this a_units a_kinds a_values a_names a_low a_high a_told a_leftOut a_isMade a_hands a_pad a_court a_title a_out k_units p1 v_this_thrown v_this_size v_this_families v_this_atHand v_this_family v_this_density v_this_pads v_this_hasThermal v_this_titleSize v_this_written v_this_at v_this_begin v_this_words v_this_paste0 v_units post hK 0 _ _ h hP hD hS ls (lv_sub hl [0, 1] rfl)
    · intro c2
      replace h := h.2 c2
      exact w_M_unit_17 l C0 hE a_this a_units a_kinds a_values a_names a_low a_high a_told a_leftOut a_isMade a_hands a_pad a_court a_title a_out k_units p1 v_this_thrown v_this_size v_this_families v_this_atHand v_this_family v_this_density v_this_pads v_this_hasThermal v_this_titleSize v_this_written v_this_at v_this_begin v_this_words v_this_paste0 v_units post hK 0 _ _ h hP hD hS ls (lv_sub hl [0, 1] rfl)
abbrev yM_isGap : MethodName := ⟨"FootprintRulesModel", "isGap", "(I)Z"⟩
abbrev cM_isGap : ByteArray := prog_14_method_4_code
abbrev wsM_isGap : List Cond := .code yM_isGap cM_isGap 2 (some .boolean) :: zT
set_option maxRecDepth 100000 in
theorem zc_M_isGap : Cond.code yM_isGap cM_isGap 2 (some .boolean) ∈ zT := zm 1148 (by rfl) (by rfl)
theorem dM_isGap_0 : decode cM_isGap 0 = .ok (.aload_n 0, 1) := by decide +kernel
theorem dM_isGap_1 : decode cM_isGap 1 = .ok (.getfield 7, 3) := by decide +kernel
theorem dM_isGap_4 : decode cM_isGap 4 = .ok (.iload_n 1, 1) := by decide +kernel
theorem dM_isGap_5 : decode cM_isGap 5 = .ok (.iaload, 1) := by decide +kernel
theorem dM_isGap_6 : decode cM_isGap 6 = .ok (.bipush 32, 2) := by decide +kernel
theorem dM_isGap_8 : decode cM_isGap 8 = .ok (.if_icmp .eq 14, 3) := by decide +kernel
theorem dM_isGap_11 : decode cM_isGap 11 = .ok (.aload_n 0, 1) := by decide +kernel
theorem dM_isGap_12 : decode cM_isGap 12 = .ok (.getfield 7, 3) := by decide +kernel
theorem dM_isGap_15 : decode cM_isGap 15 = .ok (.iload_n 1, 1) := by decide +kernel
theorem dM_isGap_16 : decode cM_isGap 16 = .ok (.iaload, 1) := by decide +kernel
theorem dM_isGap_17 : decode cM_isGap 17 = .ok (.bipush 10, 2) := by decide +kernel
theorem dM_isGap_19 : decode cM_isGap 19 = .ok (.if_icmp .ne 7, 3) := by decide +kernel
theorem dM_isGap_22 : decode cM_isGap 22 = .ok (.iconst 1, 1) := by decide +kernel
theorem dM_isGap_23 : decode cM_isGap 23 = .ok (.goto 4, 3) := by decide +kernel
theorem dM_isGap_26 : decode cM_isGap 26 = .ok (.iconst 0, 1) := by decide +kernel
theorem dM_isGap_27 : decode cM_isGap 27 = .ok (.ireturn, 1) := by decide +kernel
-- FootprintRulesModel.isGap(I)Z
abbrev w_M_isGap (ad : Nat → Nat → Nat) (a_this : Nat) (a_units : Nat) (a_kinds : Nat) (a_values : Nat) (a_names : Nat) (a_low : Nat) (a_high : Nat) (a_told : Nat) (a_leftOut : Nat) (a_isMade : Nat) (a_hands : Nat) (a_pad : Nat) (a_court : Nat) (a_title : Nat) (a_out : Nat) (k_units : ClassId) (v_this_thrown : Int32) (v_this_size : Int32) (v_this_families : Int32) (v_this_atHand : Int32) (v_this_family : Int32) (v_this_density : Int32) (v_this_pads : Int32) (v_this_hasThermal : Int32) (v_this_titleSize : Int32) (v_this_written : Int32) (v_this_at : Int32) (v_this_begin : Int32) (v_this_words : Int32) (v_this_paste0 : Int64) (v_units : Nat → Int32) : va_W := [(a_this, .inr (10, [.int v_this_thrown, .ref a_units, .int v_this_size, .int v_this_families, .ref a_kinds, .ref a_values, .ref a_names, .ref a_low, .ref a_high, .ref a_told, .ref a_leftOut, .ref a_isMade, .ref a_hands, .int v_this_atHand, .int v_this_family, .int v_this_density, .int v_this_pads, .ref a_pad, .ref a_court, .int v_this_hasThermal, .ref a_title, .int v_this_titleSize, .ref a_out, .int v_this_written, .int v_this_at, .int v_this_begin, .int v_this_words, .long v_this_paste0])), (a_units, .inl (k_units, 600, .inl v_units))]
def P_M_isGap_22  (post : Int32 → Prop)  : Prop := post 1
set_option maxHeartbeats 4000000 in
set_option maxRecDepth 100000 in
theorem w_M_isGap_22 (l : Launch) {p : Program} {e : Env} {s : State} {m : MethodId} {args : Array Value} {below : List Frame} {meth : Method} {c : Code} {dC : Nat → ClassId} {dI : Nat → Nat → Nat} {ad : Nat → Nat → Nat} {A : Nat → Prop} (C0 : zC p s m args meth c cM_isGap 2 RM zT (some .boolean) A) (hE : zE ad A s) (a_this : Nat) (a_units : Nat) (a_kinds : Nat) (a_values : Nat) (a_names : Nat) (a_low : Nat) (a_high : Nat) (a_told : Nat) (a_leftOut : Nat) (a_isMade : Nat) (a_hands : Nat) (a_pad : Nat) (a_court : Nat) (a_title : Nat) (a_out : Nat) (k_units : ClassId) (p1 : Int32) (v_this_thrown : Int32) (v_this_size : Int32) (v_this_families : Int32) (v_this_atHand : Int32) (v_this_family : Int32) (v_this_density : Int32) (v_this_pads : Int32) (v_this_hasThermal : Int32) (v_this_titleSize : Int32) (v_this_written : Int32) (v_this_at : Int32) (v_this_begin : Int32) (v_this_words : Int32) (v_this_paste0 : Int64) (v_units : Nat → Int32) (post : Int32 → Prop) (hK : va_K (dC, dI) vwCl [(k_units, .int)] s) : ∀  (H : Heap) (locs : List Loc), P_M_isGap_22 post → va_P (dC, dI) vwCl (w_M_isGap ad a_this a_units a_kinds a_values a_names a_low a_high a_told a_leftOut a_isMade a_hands a_pad a_court a_title a_out k_units v_this_thrown v_this_size v_this_families v_this_atHand v_this_family v_this_density v_this_pads v_this_hasThermal v_this_titleSize v_this_written v_this_at v_this_begin v_this_words v_this_paste0 v_units) H → va_D A (w_M_isGap ad a_this a_units a_kinds a_values a_names a_low a_high a_told a_leftOut a_isMade a_hands a_pad a_court a_title a_out k_units v_this_thrown v_this_size v_this_families v_this_atHand v_this_family v_this_density v_this_pads v_this_hasThermal v_this_titleSize v_this_written v_this_at v_this_begin v_this_words v_this_paste0 v_units) → va_S A s.heap H locs → ∀ ls : Array Slot, lv_has ls 2 [] → W p l e (headSpec wsM_isGap { frames := 0, cells := 0, slots := 0, locals := 0 }).room s m args below meth c H locs 0 0 (MQ below (va_Qi (fun (r : Int32) (u : Unit) => post r) (zB (dC, dI) A (fun (u : Unit) => (w_M_isGap ad a_this a_units a_kinds a_values a_names a_low a_high a_told a_leftOut a_isMade a_hands a_pad a_court a_title a_out k_units v_this_thrown v_this_size v_this_families v_this_atHand v_this_family v_this_density v_this_pads v_this_hasThermal v_this_titleSize v_this_written v_this_at v_this_begin v_this_words v_this_paste0 v_units))) A) args s 0 0 A) (F0 m 22 ls []) := by
  obtain ⟨hx, hb, hr, hml, hown, hts, hlocks, hA⟩ := id C0
  intro  H locs h hP hD hS ls hl
  unfold P_M_isGap_22 at h
  refine lv_iconst (v := 1) hx hb dM_isGap_22 (by decide) ?_
  refine lv_goto (tgt := 27) hx hb dM_isGap_23 (by decide) ?_
  exact W.zret (v := 1) hx hb hr rfl (fun t ht hW => ⟨⟨1, (()), rfl, h, by rw [ht]; exact hP, hD⟩, hS.F ht⟩) hS.2.2 dM_isGap_27
def P_M_isGap (p1 : Int32) (v_units : Nat → Int32) (post : Int32 → Prop) : Prop := vp_in p1 600 ∧ (((v_units p1.toNatClampNeg) = 32 → P_M_isGap_22 post) ∧ (¬ (v_units p1.toNatClampNeg) = 32 → vp_in p1 600 ∧ ((¬ (v_units p1.toNatClampNeg) = 10 → post 0) ∧ ((v_units p1.toNatClampNeg) = 10 → P_M_isGap_22 post))))
set_option maxHeartbeats 4000000 in
set_option maxRecDepth 100000 in
theorem c_M_isGap (l : Launch) (dC : Nat → ClassId) (dI : Nat → Nat → Nat) (ad : Nat → Nat → Nat) (a_this : Nat) (a_units : Nat) (a_kinds : Nat) (a_values : Nat) (a_names : Nat) (a_low : Nat) (a_high : Nat) (a_told : Nat) (a_leftOut : Nat) (a_isMade : Nat) (a_hands : Nat) (a_pad : Nat) (a_court : Nat) (a_title : Nat) (a_out : Nat) (k_units : ClassId) (sz : Nat) (p1 : Int32) (v_this_thrown : Int32) (v_this_size : Int32) (v_this_families : Int32) (v_this_atHand : Int32) (v_this_family : Int32) (v_this_density : Int32) (v_this_pads : Int32) (v_this_hasThermal : Int32) (v_this_titleSize : Int32) (v_this_written : Int32) (v_this_at : Int32) (v_this_begin : Int32) (v_this_words : Int32) (v_this_paste0 : Int64) (v_units : Nat → Int32) (post : Int32 → Prop) (h : P_M_isGap p1 v_units post) : zMi l yM_isGap wsM_isGap { frames := 0, cells := 0, slots := 0, locals := 0 } (dC, dI) ad [.ref a_this, .int p1] (w_M_isGap ad a_this a_units a_kinds a_values a_names a_low a_high a_told a_leftOut a_isMade a_hands a_pad a_court a_title a_out k_units v_this_thrown v_this_size v_this_families v_this_atHand v_this_family v_this_density v_this_pads v_this_hasThermal v_this_titleSize v_this_written v_this_at v_this_begin v_this_words v_this_paste0 v_units) [(k_units, .int)] sz (fun (r : Int32) (u : Unit) => post r) (fun (u : Unit) => (w_M_isGap ad a_this a_units a_kinds a_values a_names a_low a_high a_told a_leftOut a_isMade a_hands a_pad a_court a_title a_out k_units v_this_thrown v_this_size v_this_families v_this_atHand v_this_family v_this_density v_this_pads v_this_hasThermal v_this_titleSize v_this_written v_this_at v_this_begin v_this_words v_this_paste0 v_units)) 0 0 := by
  refine Met.ofW (cc := cM_isGap) (maxL := 2) (ret := (some .boolean)) (by decide +kernel) rfl ?_
  intro p e s m args below meth c s₁ B hml hv
  obtain ⟨rfl, hsz, hP, hK, hD0, hE⟩ := hv
  have hx := B.exec
  have hb := B.bytes
  have hr := B.returns
  have hts0 := atoms_spec (ws := wsM_isGap) B.pre
  have hts := fun w h => hts0 w (List.mem_cons_of_mem _ h)
  have hown : s.vm.findClass RM = some m.cls := findClass_of_methodNamed B.named
  have hlocks := B.notSynchronized
  subst hsz
  have hD := hD0.self (sz := s.heap.size)
  generalize hAe : va_A (w_M_isGap ad a_this a_units a_kinds a_values a_names a_low a_high a_told a_leftOut a_isMade a_hands a_pad a_court a_title a_out k_units v_this_thrown v_this_size v_this_families v_this_atHand v_this_family v_this_density v_this_pads v_this_hasThermal v_this_titleSize v_this_written v_this_at v_this_begin v_this_words v_this_paste0 v_units) s.heap.size = A at hD hE ⊢
  have hA : ∀ q : Nat, s.heap.size ≤ q → A q := fun q h => by rw [← hAe]; exact Or.inr h
  have C0 := zC.mk hx hb hr hml hown hts hlocks hA
  have hS : va_S A s.heap s.heap [] := va_S.rf
  have hl := lv_entry ([.ref a_this, .int p1]) (n := 2) (Nat.le_of_ble_eq_true rfl)
  rw [lg_entry_eq]
  generalize (lg_sl ([.ref a_this, .int p1]) ++ List.replicate (2 - (lg_sl ([.ref a_this, .int p1])).length) Slot.unset).toArray = ls at hl ⊢
  have hl : lv_has ls 2 [(0, .ref a_this), (1, .int p1)] := hl
  unfold P_M_isGap at h
  refine lv_aload_n hx hb dM_isGap_0 rfl (lv_at hl 0 rfl) ?_
  refine va_get (D := (dC, dI)) (ci := 10) (v := .ref a_units) (C := RM) (T := TM) (N := 28) hx hb hts inZ_M hown hK hP 0 rfl rfl 1 (by decide) (hts _ zw_1045) (fun _ h9 => h9) rfl dM_isGap_1 ?_
  refine lv_iload_n hx hb dM_isGap_4 rfl (lv_at hl 1 rfl) ?_
  obtain ⟨hn1, h⟩ := h
  refine va_iald hx hb hK hP 1 0 rfl rfl hn1 dM_isGap_5 ?_
  refine lv_bipush (v := 32) hx hb dM_isGap_6 (by decide) ?_
  refine lv_icmp_eq (tgt := 22) hx hb dM_isGap_8 (by decide) ?_ ?_
  · intro c2
    replace h := h.1 c2
    exact w_M_isGap_22 l C0 hE a_this a_units a_kinds a_values a_names a_low a_high a_told a_leftOut a_isMade a_hands a_pad a_court a_title a_out k_units p1 v_this_thrown v_this_size v_this_families v_this_atHand v_this_family v_this_density v_this_pads v_this_hasThermal v_this_titleSize v_this_written v_this_at v_this_begin v_this_words v_this_paste0 v_units post hK _ _ h hP hD hS ls (lv_sub hl [] rfl)
  · intro c2
    replace h := h.2 c2
    refine lv_aload_n hx hb dM_isGap_11 rfl (lv_at hl 0 rfl) ?_
    refine va_get (D := (dC, dI)) (ci := 10) (v := .ref a_units) (C := RM) (T := TM) (N := 28) hx hb hts inZ_M hown hK hP 0 rfl rfl 1 (by decide) (hts _ zw_1045) (fun _ h9 => h9) rfl dM_isGap_12 ?_
    refine lv_iload_n hx hb dM_isGap_15 rfl (lv_at hl 1 rfl) ?_
    obtain ⟨hn3, h⟩ := h
    refine va_iald hx hb hK hP 1 0 rfl rfl hn3 dM_isGap_16 ?_
    refine lv_bipush (v := 10) hx hb dM_isGap_17 (by decide) ?_
    refine lv_icmp_ne (tgt := 26) hx hb dM_isGap_19 (by decide) ?_ ?_
    · intro c4
      replace h := h.1 c4
      refine lv_iconst (v := 0) hx hb dM_isGap_26 (by decide) ?_
      exact W.zret (v := 0) hx hb hr rfl (fun t ht hW => ⟨⟨0, (()), rfl, h, by rw [ht]; exact hP, hD⟩, hS.F ht⟩) hS.2.2 dM_isGap_27
    · intro c4
      replace h := h.2 c4
      exact w_M_isGap_22 l C0 hE a_this a_units a_kinds a_values a_names a_low a_high a_told a_leftOut a_isMade a_hands a_pad a_court a_title a_out k_units p1 v_this_thrown v_this_size v_this_families v_this_atHand v_this_family v_this_density v_this_pads v_this_hasThermal v_this_titleSize v_this_written v_this_at v_this_begin v_this_words v_this_paste0 v_units post hK _ _ h hP hD hS ls (lv_sub hl [] rfl)
abbrev yM_next : MethodName := ⟨"FootprintRulesModel", "next", "()Z"⟩
abbrev cM_next : ByteArray := prog_14_method_5_code
abbrev wsM_next : List Cond := .code yM_next cM_next 1 (some .boolean) :: zT
set_option maxRecDepth 100000 in
theorem zc_M_next : Cond.code yM_next cM_next 1 (some .boolean) ∈ zT := zm 1144 (by rfl) (by rfl)
theorem dM_next_0 : decode cM_next 0 = .ok (.aload_n 0, 1) := by decide +kernel
theorem dM_next_1 : decode cM_next 1 = .ok (.getfield 61, 3) := by decide +kernel
theorem dM_next_4 : decode cM_next 4 = .ok (.aload_n 0, 1) := by decide +kernel
theorem dM_next_5 : decode cM_next 5 = .ok (.getfield 58, 3) := by decide +kernel
theorem dM_next_8 : decode cM_next 8 = .ok (.if_icmp .ge 27, 3) := by decide +kernel
theorem dM_next_11 : decode cM_next 11 = .ok (.aload_n 0, 1) := by decide +kernel
theorem dM_next_12 : decode cM_next 12 = .ok (.aload_n 0, 1) := by decide +kernel
theorem dM_next_13 : decode cM_next 13 = .ok (.getfield 61, 3) := by decide +kernel
theorem dM_next_16 : decode cM_next 16 = .ok (.invokevirtual 64, 3) := by decide +kernel
theorem dM_next_19 : decode cM_next 19 = .ok (.ifCond .eq 16, 3) := by decide +kernel
theorem dM_next_22 : decode cM_next 22 = .ok (.aload_n 0, 1) := by decide +kernel
theorem dM_next_23 : decode cM_next 23 = .ok (.dup, 1) := by decide +kernel
theorem dM_next_24 : decode cM_next 24 = .ok (.getfield 61, 3) := by decide +kernel
theorem dM_next_27 : decode cM_next 27 = .ok (.iconst 1, 1) := by decide +kernel
theorem dM_next_28 : decode cM_next 28 = .ok (.iadd, 1) := by decide +kernel
theorem dM_next_29 : decode cM_next 29 = .ok (.putfield 61, 3) := by decide +kernel
theorem dM_next_32 : decode cM_next 32 = .ok (.goto (-32), 3) := by decide +kernel
theorem dM_next_35 : decode cM_next 35 = .ok (.aload_n 0, 1) := by decide +kernel
theorem dM_next_36 : decode cM_next 36 = .ok (.aload_n 0, 1) := by decide +kernel
theorem dM_next_37 : decode cM_next 37 = .ok (.getfield 61, 3) := by decide +kernel
theorem dM_next_40 : decode cM_next 40 = .ok (.putfield 68, 3) := by decide +kernel
theorem dM_next_43 : decode cM_next 43 = .ok (.aload_n 0, 1) := by decide +kernel
theorem dM_next_44 : decode cM_next 44 = .ok (.getfield 61, 3) := by decide +kernel
theorem dM_next_47 : decode cM_next 47 = .ok (.aload_n 0, 1) := by decide +kernel
theorem dM_next_48 : decode cM_next 48 = .ok (.getfield 58, 3) := by decide +kernel
theorem dM_next_51 : decode cM_next 51 = .ok (.if_icmp .ge 27, 3) := by decide +kernel
theorem dM_next_54 : decode cM_next 54 = .ok (.aload_n 0, 1) := by decide +kernel
theorem dM_next_55 : decode cM_next 55 = .ok (.aload_n 0, 1) := by decide +kernel
theorem dM_next_56 : decode cM_next 56 = .ok (.getfield 61, 3) := by decide +kernel
theorem dM_next_59 : decode cM_next 59 = .ok (.invokevirtual 64, 3) := by decide +kernel
theorem dM_next_62 : decode cM_next 62 = .ok (.ifCond .ne 16, 3) := by decide +kernel
theorem dM_next_65 : decode cM_next 65 = .ok (.aload_n 0, 1) := by decide +kernel
theorem dM_next_66 : decode cM_next 66 = .ok (.dup, 1) := by decide +kernel
theorem dM_next_67 : decode cM_next 67 = .ok (.getfield 61, 3) := by decide +kernel
theorem dM_next_70 : decode cM_next 70 = .ok (.iconst 1, 1) := by decide +kernel
theorem dM_next_71 : decode cM_next 71 = .ok (.iadd, 1) := by decide +kernel
theorem dM_next_72 : decode cM_next 72 = .ok (.putfield 61, 3) := by decide +kernel
theorem dM_next_75 : decode cM_next 75 = .ok (.goto (-32), 3) := by decide +kernel
theorem dM_next_78 : decode cM_next 78 = .ok (.aload_n 0, 1) := by decide +kernel
theorem dM_next_79 : decode cM_next 79 = .ok (.getfield 68, 3) := by decide +kernel
theorem dM_next_82 : decode cM_next 82 = .ok (.aload_n 0, 1) := by decide +kernel
theorem dM_next_83 : decode cM_next 83 = .ok (.getfield 61, 3) := by decide +kernel
theorem dM_next_86 : decode cM_next 86 = .ok (.if_icmp .ne 5, 3) := by decide +kernel
theorem dM_next_89 : decode cM_next 89 = .ok (.iconst 0, 1) := by decide +kernel
theorem dM_next_90 : decode cM_next 90 = .ok (.ireturn, 1) := by decide +kernel
theorem dM_next_91 : decode cM_next 91 = .ok (.aload_n 0, 1) := by decide +kernel
theorem dM_next_92 : decode cM_next 92 = .ok (.dup, 1) := by decide +kernel
theorem dM_next_93 : decode cM_next 93 = .ok (.getfield 71, 3) := by decide +kernel
theorem dM_next_96 : decode cM_next 96 = .ok (.iconst 1, 1) := by decide +kernel
theorem dM_next_97 : decode cM_next 97 = .ok (.iadd, 1) := by decide +kernel
theorem dM_next_98 : decode cM_next 98 = .ok (.putfield 71, 3) := by decide +kernel
theorem dM_next_101 : decode cM_next 101 = .ok (.iconst 1, 1) := by decide +kernel
theorem dM_next_102 : decode cM_next 102 = .ok (.ireturn, 1) := by decide +kernel
-- FootprintRulesModel.next()Z
abbrev w_M_next (ad : Nat → Nat → Nat) (a_this : Nat) (a_units : Nat) (a_kinds : Nat) (a_values : Nat) (a_names : Nat) (a_low : Nat) (a_high : Nat) (a_told : Nat) (a_leftOut : Nat) (a_isMade : Nat) (a_hands : Nat) (a_pad : Nat) (a_court : Nat) (a_title : Nat) (a_out : Nat) (k_units : ClassId) (v_this_thrown : Int32) (v_this_size : Int32) (v_this_families : Int32) (v_this_atHand : Int32) (v_this_family : Int32) (v_this_density : Int32) (v_this_pads : Int32) (v_this_hasThermal : Int32) (v_this_titleSize : Int32) (v_this_written : Int32) (v_this_at : Int32) (v_this_begin : Int32) (v_this_words : Int32) (v_this_paste0 : Int64) (v_units : Nat → Int32) : va_W := [(a_this, .inr (10, [.int v_this_thrown, .ref a_units, .int v_this_size, .int v_this_families, .ref a_kinds, .ref a_values, .ref a_names, .ref a_low, .ref a_high, .ref a_told, .ref a_leftOut, .ref a_isMade, .ref a_hands, .int v_this_atHand, .int v_this_family, .int v_this_density, .int v_this_pads, .ref a_pad, .ref a_court, .int v_this_hasThermal, .ref a_title, .int v_this_titleSize, .ref a_out, .int v_this_written, .int v_this_at, .int v_this_begin, .int v_this_words, .long v_this_paste0])), (a_units, .inl (k_units, 600, .inl v_units))]
def P_M_next_78 (v_this_words : Int32) (post : Int32 → Int32 → Int32 → Int32 → Prop) (u_this_at : Int32) (u_this_begin : Int32) : Prop := ((¬ u_this_begin = u_this_at → ∀ x2 : Int32, x2 = v_this_words + 1 → post 1 u_this_at u_this_begin x2) ∧ (u_this_begin = u_this_at → post 0 u_this_at u_this_begin v_this_words))
set_option maxHeartbeats 4000000 in
set_option maxRecDepth 100000 in
theorem w_M_next_78 (l : Launch) {p : Program} {e : Env} {s : State} {m : MethodId} {args : Array Value} {below : List Frame} {meth : Method} {c : Code} {dC : Nat → ClassId} {dI : Nat → Nat → Nat} {ad : Nat → Nat → Nat} {A : Nat → Prop} (C0 : zC p s m args meth c cM_next 1 RM zT (some .boolean) A) (hE : zE ad A s) (a_this : Nat) (a_units : Nat) (a_kinds : Nat) (a_values : Nat) (a_names : Nat) (a_low : Nat) (a_high : Nat) (a_told : Nat) (a_leftOut : Nat) (a_isMade : Nat) (a_hands : Nat) (a_pad : Nat) (a_court : Nat) (a_title : Nat) (a_out : Nat) (k_units : ClassId) (v_this_thrown : Int32) (v_this_size : Int32) (v_this_families : Int32) (v_this_atHand : Int32) (v_this_family : Int32) (v_this_density : Int32) (v_this_pads : Int32) (v_this_hasThermal : Int32) (v_this_titleSize : Int32) (v_this_written : Int32) (v_this_at : Int32) (v_this_begin : Int32) (v_this_words : Int32) (v_this_paste0 : Int64) (v_units : Nat → Int32) (post : Int32 → Int32 → Int32 → Int32 → Prop) (hK : va_K (dC, dI) vwCl [(k_units, .int)] s) : ∀ (u_this_at : Int32) (u_this_begin : Int32) (H : Heap) (locs : List Loc), P_M_next_78 v_this_words post u_this_at u_this_begin → va_P (dC, dI) vwCl (w_M_next ad a_this a_units a_kinds a_values a_names a_low a_high a_told a_leftOut a_isMade a_hands a_pad a_court a_title a_out k_units v_this_thrown v_this_size v_this_families v_this_atHand v_this_family v_this_density v_this_pads v_this_hasThermal v_this_titleSize v_this_written u_this_at u_this_begin v_this_words v_this_paste0 v_units) H → va_D A (w_M_next ad a_this a_units a_kinds a_values a_names a_low a_high a_told a_leftOut a_isMade a_hands a_pad a_court a_title a_out k_units v_this_thrown v_this_size v_this_families v_this_atHand v_this_family v_this_density v_this_pads v_this_hasThermal v_this_titleSize v_this_written u_this_at u_this_begin v_this_words v_this_paste0 v_units) → va_S A s.heap H locs → ∀ ls : Array Slot, lv_has ls 1 [(0, .ref a_this)] → W p l e (headSpec wsM_next { frames := 1, cells := 0, slots := 0, locals := 21 }).room s m args below meth c H locs 0 0 (MQ below (va_Qi (fun (r : Int32) (u : Int32 × Int32 × Int32) => post r u.1 u.2.1 u.2.2) (zB (dC, dI) A (fun (u : Int32 × Int32 × Int32) => (w_M_next ad a_this a_units a_kinds a_values a_names a_low a_high a_told a_leftOut a_isMade a_hands a_pad a_court a_title a_out k_units v_this_thrown v_this_size v_this_families v_this_atHand v_this_family v_this_density v_this_pads v_this_hasThermal v_this_titleSize v_this_written u.1 u.2.1 u.2.2 v_this_paste0 v_units))) A) args s 0 0 A) (F0 m 78 ls []) := by
  obtain ⟨hx, hb, hr, hml, hown, hts, hlocks, hA⟩ := id C0
  intro u_this_at u_this_begin H locs h hP hD hS ls hl
  unfold P_M_next_78 at h
  refine lv_aload_n hx hb dM_next_78 rfl (lv_at hl 0 rfl) ?_
  refine va_get (D := (dC, dI)) (ci := 10) (v := .int u_this_begin) (C := RM) (T := TM) (N := 28) hx hb hts inZ_M hown hK hP 0 rfl rfl 25 (by decide) (hts _ zw_1069) (fun _ h9 => h9) rfl dM_next_79 ?_
  refine lv_aload_n hx hb dM_next_82 rfl (lv_at hl 0 rfl) ?_
  refine va_get (D := (dC, dI)) (ci := 10) (v := .int u_this_at) (C := RM) (T := TM) (N := 28) hx hb hts inZ_M hown hK hP 0 rfl rfl 24 (by decide) (hts _ zw_1068) (fun _ h9 => h9) rfl dM_next_83 ?_
  refine lv_icmp_ne (tgt := 91) hx hb dM_next_86 (by decide) ?_ ?_
  · intro c1
    replace h := h.1 c1
    refine lv_aload_n hx hb dM_next_91 rfl (lv_at hl 0 rfl) ?_
    refine lv_dup hx hb dM_next_92 rfl ?_
    refine va_get (D := (dC, dI)) (ci := 10) (v := .int v_this_words) (C := RM) (T := TM) (N := 28) hx hb hts inZ_M hown hK hP 0 rfl rfl 26 (by decide) (hts _ zw_1070) (fun _ h9 => h9) rfl dM_next_93 ?_
    refine lv_iconst (v := 1) hx hb dM_next_96 (by decide) ?_
    refine lv_iadd hx hb dM_next_97 ?_
    refine lv_topi (fun x2 ex2 => ?_)
    replace h := h x2 ex2
    refine va_put (D := (dC, dI)) (ci := 10) (v := .int x2) (ty := .int) (C := RM) (T := TM) (N := 28) hx hb hts inZ_M tyM tyM_ok nmM hown hK hP hD hS 0 rfl rfl 26 (by decide) (hts _ zw_1070) (fun _ h9 => h9) rfl (by decide +kernel) rfl rfl (Nat.le_of_ble_eq_true rfl) dM_next_98 (fun H locs hP hD hS => ?_)
    have hP : va_P (dC, dI) vwCl (w_M_next ad a_this a_units a_kinds a_values a_names a_low a_high a_told a_leftOut a_isMade a_hands a_pad a_court a_title a_out k_units v_this_thrown v_this_size v_this_families v_this_atHand v_this_family v_this_density v_this_pads v_this_hasThermal v_this_titleSize v_this_written u_this_at u_this_begin x2 v_this_paste0 v_units) H := hP
    have hD : va_D A (w_M_next ad a_this a_units a_kinds a_values a_names a_low a_high a_told a_leftOut a_isMade a_hands a_pad a_court a_title a_out k_units v_this_thrown v_this_size v_this_families v_this_atHand v_this_family v_this_density v_this_pads v_this_hasThermal v_this_titleSize v_this_written u_this_at u_this_begin x2 v_this_paste0 v_units) := hD
    refine lv_iconst (v := 1) hx hb dM_next_101 (by decide) ?_
    exact W.zret (v := 1) hx hb hr rfl (fun t ht hW => ⟨⟨1, (u_this_at, u_this_begin, x2), rfl, h, by rw [ht]; exact hP, hD⟩, hS.F ht⟩) hS.2.2 dM_next_102
  · intro c1
    replace h := h.2 c1
    refine lv_iconst (v := 0) hx hb dM_next_89 (by decide) ?_
    exact W.zret (v := 0) hx hb hr rfl (fun t ht hW => ⟨⟨0, (u_this_at, u_this_begin, v_this_words), rfl, h, by rw [ht]; exact hP, hD⟩, hS.F ht⟩) hS.2.2 dM_next_90
def P_M_next_43 (v_this_size : Int32) (v_this_words : Int32) (v_units : Nat → Int32) (post : Int32 → Int32 → Int32 → Int32 → Prop) : Nat → Int32 → Int32 → Prop
  | 0, _, _ => False
  | n + 1, u_this_at, u_this_begin => ((v_this_size ≤ u_this_at → P_M_next_78 v_this_words post u_this_at u_this_begin) ∧ (¬ v_this_size ≤ u_this_at → P_M_isGap u_this_at v_units (fun (r2 : Int32) => ((¬ r2 = 0 → P_M_next_78 v_this_words post u_this_at u_this_begin) ∧ (r2 = 0 → ∀ x4 : Int32, x4 = u_this_at + 1 → P_M_next_43 v_this_size v_this_words v_units post n x4 u_this_begin)))))
set_option maxHeartbeats 4000000 in
set_option maxRecDepth 100000 in
theorem w_M_next_43 (l : Launch) {p : Program} {e : Env} {s : State} {m : MethodId} {args : Array Value} {below : List Frame} {meth : Method} {c : Code} {dC : Nat → ClassId} {dI : Nat → Nat → Nat} {ad : Nat → Nat → Nat} {A : Nat → Prop} (C0 : zC p s m args meth c cM_next 1 RM zT (some .boolean) A) (hE : zE ad A s) (a_this : Nat) (a_units : Nat) (a_kinds : Nat) (a_values : Nat) (a_names : Nat) (a_low : Nat) (a_high : Nat) (a_told : Nat) (a_leftOut : Nat) (a_isMade : Nat) (a_hands : Nat) (a_pad : Nat) (a_court : Nat) (a_title : Nat) (a_out : Nat) (k_units : ClassId) (v_this_thrown : Int32) (v_this_size : Int32) (v_this_families : Int32) (v_this_atHand : Int32) (v_this_family : Int32) (v_this_density : Int32) (v_this_pads : Int32) (v_this_hasThermal : Int32) (v_this_titleSize : Int32) (v_this_written : Int32) (v_this_at : Int32) (v_this_begin : Int32) (v_this_words : Int32) (v_this_paste0 : Int64) (v_units : Nat → Int32) (post : Int32 → Int32 → Int32 → Int32 → Prop) (hK : va_K (dC, dI) vwCl [(k_units, .int)] s) : ∀ (n : Nat), ∀ (u_this_at : Int32) (u_this_begin : Int32) (H : Heap) (locs : List Loc), P_M_next_43 v_this_size v_this_words v_units post n u_this_at u_this_begin → va_P (dC, dI) vwCl (w_M_next ad a_this a_units a_kinds a_values a_names a_low a_high a_told a_leftOut a_isMade a_hands a_pad a_court a_title a_out k_units v_this_thrown v_this_size v_this_families v_this_atHand v_this_family v_this_density v_this_pads v_this_hasThermal v_this_titleSize v_this_written u_this_at u_this_begin v_this_words v_this_paste0 v_units) H → va_D A (w_M_next ad a_this a_units a_kinds a_values a_names a_low a_high a_told a_leftOut a_isMade a_hands a_pad a_court a_title a_out k_units v_this_thrown v_this_size v_this_families v_this_atHand v_this_family v_this_density v_this_pads v_this_hasThermal v_this_titleSize v_this_written u_this_at u_this_begin v_this_words v_this_paste0 v_units) → va_S A s.heap H locs → ∀ ls : Array Slot, lv_has ls 1 [(0, .ref a_this)] → W p l e (headSpec wsM_next { frames := 1, cells := 0, slots := 0, locals := 21 }).room s m args below meth c H locs 0 0 (MQ below (va_Qi (fun (r : Int32) (u : Int32 × Int32 × Int32) => post r u.1 u.2.1 u.2.2) (zB (dC, dI) A (fun (u : Int32 × Int32 × Int32) => (w_M_next ad a_this a_units a_kinds a_values a_names a_low a_high a_told a_leftOut a_isMade a_hands a_pad a_court a_title a_out k_units v_this_thrown v_this_size v_this_families v_this_atHand v_this_family v_this_density v_this_pads v_this_hasThermal v_this_titleSize v_this_written u.1 u.2.1 u.2.2 v_this_paste0 v_units))) A) args s 0 0 A) (F0 m 43 ls []) := by
  obtain ⟨hx, hb, hr, hml, hown, hts, hlocks, hA⟩ := id C0
  intro n
  induction n with
  | zero =>
    intro u_this_at u_this_begin H locs h
    exact False.elim h
  | succ n ih =>
    intro u_this_at u_this_begin H locs h hP hD hS ls hl
    rw [P_M_next_43] at h
    refine lv_aload_n hx hb dM_next_43 rfl (lv_at hl 0 rfl) ?_
    refine va_get (D := (dC, dI)) (ci := 10) (v := .int u_this_at) (C := RM) (T := TM) (N := 28) hx hb hts inZ_M hown hK hP 0 rfl rfl 24 (by decide) (hts _ zw_1068) (fun _ h9 => h9) rfl dM_next_44 ?_
    refine lv_aload_n hx hb dM_next_47 rfl (lv_at hl 0 rfl) ?_
    refine va_get (D := (dC, dI)) (ci := 10) (v := .int v_this_size) (C := RM) (T := TM) (N := 28) hx hb hts inZ_M hown hK hP 0 rfl rfl 2 (by decide) (hts _ zw_1046) (fun _ h9 => h9) rfl dM_next_48 ?_
    refine lv_icmp_ge (tgt := 78) hx hb dM_next_51 (by decide) ?_ ?_
    · intro c1
      replace h := h.1 c1
      exact w_M_next_78 l C0 hE a_this a_units a_kinds a_values a_names a_low a_high a_told a_leftOut a_isMade a_hands a_pad a_court a_title a_out k_units v_this_thrown v_this_size v_this_families v_this_atHand v_this_family v_this_density v_this_pads v_this_hasThermal v_this_titleSize v_this_written v_this_at v_this_begin v_this_words v_this_paste0 v_units post hK u_this_at u_this_begin _ _ h hP hD hS ls (lv_sub hl [0] rfl)
    · intro c1
      replace h := h.2 c1
      refine lv_aload_n hx hb dM_next_54 rfl (lv_at hl 0 rfl) ?_
      refine lv_aload_n hx hb dM_next_55 rfl (lv_at hl 0 rfl) ?_
      refine va_get (D := (dC, dI)) (ci := 10) (v := .int u_this_at) (C := RM) (T := TM) (N := 28) hx hb hts inZ_M hown hK hP 0 rfl rfl 24 (by decide) (hts _ zw_1068) (fun _ h9 => h9) rfl dM_next_56 ?_
      refine zcall_i hP hD hS hA [0, 1] [] (va_runV (As := [.int u_this_at]) (rest := []) ⟨hx, hb, hml, hown, hts⟩ (c_M_isGap l dC dI ad a_this a_units a_kinds a_values a_names a_low a_high a_told a_leftOut a_isMade a_hands a_pad a_court a_title a_out k_units _ u_this_at v_this_thrown v_this_size v_this_families v_this_atHand v_this_family v_this_density v_this_pads v_this_hasThermal v_this_titleSize v_this_written u_this_at u_this_begin v_this_words v_this_paste0 v_units _ h) ⟨callB_of 1 hts (zgood zc_M_isGap) rfl rfl rfl (hts _ zw_107) (hts _ zw_1145) (by decide +kernel) ⟨Nat.le_of_ble_eq_true rfl, Nat.le_of_ble_eq_true rfl⟩, (hts _ zw_1147), (hts _ zw_70)⟩ (zpreV hE hK hP hD hS hA [0, 1] [0] (by rfl) (by rfl) (by decide) (ci := 10) (q0 := 0) rfl (by rfl)) rfl rfl hl.1 rfl (lv_room (Nat.le_of_ble_eq_true rfl)) dM_next_59 ⟨Nat.le_of_ble_eq_true rfl, Nat.le_of_ble_eq_true rfl⟩) (by rfl) (by rfl) (by decide) (by decide) (fun r2 u H locs h hP hD hS => ?_)
      try dsimp only at h
      have hP := hP.sub (ws' := (w_M_next ad a_this a_units a_kinds a_values a_names a_low a_high a_told a_leftOut a_isMade a_hands a_pad a_court a_title a_out k_units v_this_thrown v_this_size v_this_families v_this_atHand v_this_family v_this_density v_this_pads v_this_hasThermal v_this_titleSize v_this_written u_this_at u_this_begin v_this_words v_this_paste0 v_units)) [0, 1] rfl
      have hD := hD.sub (ws' := (w_M_next ad a_this a_units a_kinds a_values a_names a_low a_high a_told a_leftOut a_isMade a_hands a_pad a_court a_title a_out k_units v_this_thrown v_this_size v_this_families v_this_atHand v_this_family v_this_density v_this_pads v_this_hasThermal v_this_titleSize v_this_written u_this_at u_this_begin v_this_words v_this_paste0 v_units)) [0, 1] (by decide) rfl
      refine lv_if_ne (tgt := 78) hx hb dM_next_62 (by decide) ?_ ?_
      · intro c3
        replace h := h.1 c3
        exact w_M_next_78 l C0 hE a_this a_units a_kinds a_values a_names a_low a_high a_told a_leftOut a_isMade a_hands a_pad a_court a_title a_out k_units v_this_thrown v_this_size v_this_families v_this_atHand v_this_family v_this_density v_this_pads v_this_hasThermal v_this_titleSize v_this_written v_this_at v_this_begin v_this_words v_this_paste0 v_units post hK u_this_at u_this_begin _ _ h hP hD hS ls (lv_sub hl [0] rfl)
      · intro c3
        replace h := h.2 c3
        refine lv_aload_n hx hb dM_next_65 rfl (lv_at hl 0 rfl) ?_
        refine lv_dup hx hb dM_next_66 rfl ?_
        refine va_get (D := (dC, dI)) (ci := 10) (v := .int u_this_at) (C := RM) (T := TM) (N := 28) hx hb hts inZ_M hown hK hP 0 rfl rfl 24 (by decide) (hts _ zw_1068) (fun _ h9 => h9) rfl dM_next_67 ?_
        refine lv_iconst (v := 1) hx hb dM_next_70 (by decide) ?_
        refine lv_iadd hx hb dM_next_71 ?_
        refine lv_topi (fun x4 ex4 => ?_)
        replace h := h x4 ex4
        refine va_put (D := (dC, dI)) (ci := 10) (v := .int x4) (ty := .int) (C := RM) (T := TM) (N := 28) hx hb hts inZ_M tyM tyM_ok nmM hown hK hP hD hS 0 rfl rfl 24 (by decide) (hts _ zw_1068) (fun _ h9 => h9) rfl (by decide +kernel) rfl rfl (Nat.le_of_ble_eq_true rfl) dM_next_72 (fun H locs hP hD hS => ?_)
        have hP : va_P (dC, dI) vwCl (w_M_next ad a_this a_units a_kinds a_values a_names a_low a_high a_told a_leftOut a_isMade a_hands a_pad a_court a_title a_out k_units v_this_thrown v_this_size v_this_families v_this_atHand v_this_family v_this_density v_this_pads v_this_hasThermal v_this_titleSize v_this_written x4 u_this_begin v_this_words v_this_paste0 v_units) H := hP
        have hD : va_D A (w_M_next ad a_this a_units a_kinds a_values a_names a_low a_high a_told a_leftOut a_isMade a_hands a_pad a_court a_title a_out k_units v_this_thrown v_this_size v_this_families v_this_atHand v_this_family v_this_density v_this_pads v_this_hasThermal v_this_titleSize v_this_written x4 u_this_begin v_this_words v_this_paste0 v_units) := hD
        refine lv_goto (tgt := 43) hx hb dM_next_75 (by decide) ?_
        exact ih x4 u_this_begin _ _ h hP hD hS ls (lv_sub hl [0] rfl)
def P_M_next_35 (v_this_size : Int32) (v_this_words : Int32) (v_units : Nat → Int32) (post : Int32 → Int32 → Int32 → Int32 → Prop) (u_this_at : Int32) : Prop := ∃ n1, P_M_next_43 v_this_size v_this_words v_units post n1 u_this_at u_this_at
set_option maxHeartbeats 4000000 in
set_option maxRecDepth 100000 in
theorem w_M_next_35 (l : Launch) {p : Program} {e : Env} {s : State} {m : MethodId} {args : Array Value} {below : List Frame} {meth : Method} {c : Code} {dC : Nat → ClassId} {dI : Nat → Nat → Nat} {ad : Nat → Nat → Nat} {A : Nat → Prop} (C0 : zC p s m args meth c cM_next 1 RM zT (some .boolean) A) (hE : zE ad A s) (a_this : Nat) (a_units : Nat) (a_kinds : Nat) (a_values : Nat) (a_names : Nat) (a_low : Nat) (a_high : Nat) (a_told : Nat) (a_leftOut : Nat) (a_isMade : Nat) (a_hands : Nat) (a_pad : Nat) (a_court : Nat) (a_title : Nat) (a_out : Nat) (k_units : ClassId) (v_this_thrown : Int32) (v_this_size : Int32) (v_this_families : Int32) (v_this_atHand : Int32) (v_this_family : Int32) (v_this_density : Int32) (v_this_pads : Int32) (v_this_hasThermal : Int32) (v_this_titleSize : Int32) (v_this_written : Int32) (v_this_at : Int32) (v_this_begin : Int32) (v_this_words : Int32) (v_this_paste0 : Int64) (v_units : Nat → Int32) (post : Int32 → Int32 → Int32 → Int32 → Prop) (hK : va_K (dC, dI) vwCl [(k_units, .int)] s) : ∀ (u_this_at : Int32) (H : Heap) (locs : List Loc), P_M_next_35 v_this_size v_this_words v_units post u_this_at → va_P (dC, dI) vwCl (w_M_next ad a_this a_units a_kinds a_values a_names a_low a_high a_told a_leftOut a_isMade a_hands a_pad a_court a_title a_out k_units v_this_thrown v_this_size v_this_families v_this_atHand v_this_family v_this_density v_this_pads v_this_hasThermal v_this_titleSize v_this_written u_this_at v_this_begin v_this_words v_this_paste0 v_units) H → va_D A (w_M_next ad a_this a_units a_kinds a_values a_names a_low a_high a_told a_leftOut a_isMade a_hands a_pad a_court a_title a_out k_units v_this_thrown v_this_size v_this_families v_this_atHand v_this_family v_this_density v_this_pads v_this_hasThermal v_this_titleSize v_this_written u_this_at v_this_begin v_this_words v_this_paste0 v_units) → va_S A s.heap H locs → ∀ ls : Array Slot, lv_has ls 1 [(0, .ref a_this)] → W p l e (headSpec wsM_next { frames := 1, cells := 0, slots := 0, locals := 21 }).room s m args below meth c H locs 0 0 (MQ below (va_Qi (fun (r : Int32) (u : Int32 × Int32 × Int32) => post r u.1 u.2.1 u.2.2) (zB (dC, dI) A (fun (u : Int32 × Int32 × Int32) => (w_M_next ad a_this a_units a_kinds a_values a_names a_low a_high a_told a_leftOut a_isMade a_hands a_pad a_court a_title a_out k_units v_this_thrown v_this_size v_this_families v_this_atHand v_this_family v_this_density v_this_pads v_this_hasThermal v_this_titleSize v_this_written u.1 u.2.1 u.2.2 v_this_paste0 v_units))) A) args s 0 0 A) (F0 m 35 ls []) := by
  obtain ⟨hx, hb, hr, hml, hown, hts, hlocks, hA⟩ := id C0
  intro u_this_at H locs h hP hD hS ls hl
  unfold P_M_next_35 at h
  refine lv_aload_n hx hb dM_next_35 rfl (lv_at hl 0 rfl) ?_
  refine lv_aload_n hx hb dM_next_36 rfl (lv_at hl 0 rfl) ?_
  refine va_get (D := (dC, dI)) (ci := 10) (v := .int u_this_at) (C := RM) (T := TM) (N := 28) hx hb hts inZ_M hown hK hP 0 rfl rfl 24 (by decide) (hts _ zw_1068) (fun _ h9 => h9) rfl dM_next_37 ?_
  refine va_put (D := (dC, dI)) (ci := 10) (v := .int u_this_at) (ty := .int) (C := RM) (T := TM) (N := 28) hx hb hts inZ_M tyM tyM_ok nmM hown hK hP hD hS 0 rfl rfl 25 (by decide) (hts _ zw_1069) (fun _ h9 => h9) rfl (by decide +kernel) rfl rfl (Nat.le_of_ble_eq_true rfl) dM_next_40 (fun H locs hP hD hS => ?_)
  have hP : va_P (dC, dI) vwCl (w_M_next ad a_this a_units a_kinds a_values a_names a_low a_high a_told a_leftOut a_isMade a_hands a_pad a_court a_title a_out k_units v_this_thrown v_this_size v_this_families v_this_atHand v_this_family v_this_density v_this_pads v_this_hasThermal v_this_titleSize v_this_written u_this_at u_this_at v_this_words v_this_paste0 v_units) H := hP
  have hD : va_D A (w_M_next ad a_this a_units a_kinds a_values a_names a_low a_high a_told a_leftOut a_isMade a_hands a_pad a_court a_title a_out k_units v_this_thrown v_this_size v_this_families v_this_atHand v_this_family v_this_density v_this_pads v_this_hasThermal v_this_titleSize v_this_written u_this_at u_this_at v_this_words v_this_paste0 v_units) := hD
  obtain ⟨n1, h⟩ := h
  exact w_M_next_43 l C0 hE a_this a_units a_kinds a_values a_names a_low a_high a_told a_leftOut a_isMade a_hands a_pad a_court a_title a_out k_units v_this_thrown v_this_size v_this_families v_this_atHand v_this_family v_this_density v_this_pads v_this_hasThermal v_this_titleSize v_this_written v_this_at v_this_begin v_this_words v_this_paste0 v_units post hK n1 u_this_at u_this_at _ _ h hP hD hS ls (lv_sub hl [0] rfl)
def P_M_next_0 (v_this_size : Int32) (v_this_words : Int32) (v_units : Nat → Int32) (post : Int32 → Int32 → Int32 → Int32 → Prop) : Nat → Int32 → Prop
  | 0, _ => False
  | n + 1, u_this_at => ((v_this_size ≤ u_this_at → P_M_next_35 v_this_size v_this_words v_units post u_this_at) ∧ (¬ v_this_size ≤ u_this_at → P_M_isGap u_this_at v_units (fun (r2 : Int32) => ((r2 = 0 → P_M_next_35 v_this_size v_this_words v_units post u_this_at) ∧ (¬ r2 = 0 → ∀ x4 : Int32, x4 = u_this_at + 1 → P_M_next_0 v_this_size v_this_words v_units post n x4)))))
set_option maxHeartbeats 4000000 in
set_option maxRecDepth 100000 in
theorem w_M_next_0 (l : Launch) {p : Program} {e : Env} {s : State} {m : MethodId} {args : Array Value} {below : List Frame} {meth : Method} {c : Code} {dC : Nat → ClassId} {dI : Nat → Nat → Nat} {ad : Nat → Nat → Nat} {A : Nat → Prop} (C0 : zC p s m args meth c cM_next 1 RM zT (some .boolean) A) (hE : zE ad A s) (a_this : Nat) (a_units : Nat) (a_kinds : Nat) (a_values : Nat) (a_names : Nat) (a_low : Nat) (a_high : Nat) (a_told : Nat) (a_leftOut : Nat) (a_isMade : Nat) (a_hands : Nat) (a_pad : Nat) (a_court : Nat) (a_title : Nat) (a_out : Nat) (k_units : ClassId) (v_this_thrown : Int32) (v_this_size : Int32) (v_this_families : Int32) (v_this_atHand : Int32) (v_this_family : Int32) (v_this_density : Int32) (v_this_pads : Int32) (v_this_hasThermal : Int32) (v_this_titleSize : Int32) (v_this_written : Int32) (v_this_at : Int32) (v_this_begin : Int32) (v_this_words : Int32) (v_this_paste0 : Int64) (v_units : Nat → Int32) (post : Int32 → Int32 → Int32 → Int32 → Prop) (hK : va_K (dC, dI) vwCl [(k_units, .int)] s) : ∀ (n : Nat), ∀ (u_this_at : Int32) (H : Heap) (locs : List Loc), P_M_next_0 v_this_size v_this_words v_units post n u_this_at → va_P (dC, dI) vwCl (w_M_next ad a_this a_units a_kinds a_values a_names a_low a_high a_told a_leftOut a_isMade a_hands a_pad a_court a_title a_out k_units v_this_thrown v_this_size v_this_families v_this_atHand v_this_family v_this_density v_this_pads v_this_hasThermal v_this_titleSize v_this_written u_this_at v_this_begin v_this_words v_this_paste0 v_units) H → va_D A (w_M_next ad a_this a_units a_kinds a_values a_names a_low a_high a_told a_leftOut a_isMade a_hands a_pad a_court a_title a_out k_units v_this_thrown v_this_size v_this_families v_this_atHand v_this_family v_this_density v_this_pads v_this_hasThermal v_this_titleSize v_this_written u_this_at v_this_begin v_this_words v_this_paste0 v_units) → va_S A s.heap H locs → ∀ ls : Array Slot, lv_has ls 1 [(0, .ref a_this)] → W p l e (headSpec wsM_next { frames := 1, cells := 0, slots := 0, locals := 21 }).room s m args below meth c H locs 0 0 (MQ below (va_Qi (fun (r : Int32) (u : Int32 × Int32 × Int32) => post r u.1 u.2.1 u.2.2) (zB (dC, dI) A (fun (u : Int32 × Int32 × Int32) => (w_M_next ad a_this a_units a_kinds a_values a_names a_low a_high a_told a_leftOut a_isMade a_hands a_pad a_court a_title a_out k_units v_this_thrown v_this_size v_this_families v_this_atHand v_this_family v_this_density v_this_pads v_this_hasThermal v_this_titleSize v_this_written u.1 u.2.1 u.2.2 v_this_paste0 v_units))) A) args s 0 0 A) (F0 m 0 ls []) := by
  obtain ⟨hx, hb, hr, hml, hown, hts, hlocks, hA⟩ := id C0
  intro n
  induction n with
  | zero =>
    intro u_this_at H locs h
    exact False.elim h
  | succ n ih =>
    intro u_this_at H locs h hP hD hS ls hl
    rw [P_M_next_0] at h
    refine lv_aload_n hx hb dM_next_0 rfl (lv_at hl 0 rfl) ?_
    refine va_get (D := (dC, dI)) (ci := 10) (v := .int u_this_at) (C := RM) (T := TM) (N := 28) hx hb hts inZ_M hown hK hP 0 rfl rfl 24 (by decide) (hts _ zw_1068) (fun _ h9 => h9) rfl dM_next_1 ?_
    refine lv_aload_n hx hb dM_next_4 rfl (lv_at hl 0 rfl) ?_
    refine va_get (D := (dC, dI)) (ci := 10) (v := .int v_this_size) (C := RM) (T := TM) (N := 28) hx hb hts inZ_M hown hK hP 0 rfl rfl 2 (by decide) (hts _ zw_1046) (fun _ h9 => h9) rfl dM_next_5 ?_
    refine lv_icmp_ge (tgt := 35) hx hb dM_next_8 (by decide) ?_ ?_
    · intro c1
      replace h := h.1 c1
      exact w_M_next_35 l C0 hE a_this a_units a_kinds a_values a_names a_low a_high a_told a_leftOut a_isMade a_hands a_pad a_court a_title a_out k_units v_this_thrown v_this_size v_this_families v_this_atHand v_this_family v_this_density v_this_pads v_this_hasThermal v_this_titleSize v_this_written v_this_at v_this_begin v_this_words v_this_paste0 v_units post hK u_this_at _ _ h hP hD hS ls (lv_sub hl [0] rfl)
    · intro c1
      replace h := h.2 c1
      refine lv_aload_n hx hb dM_next_11 rfl (lv_at hl 0 rfl) ?_
      refine lv_aload_n hx hb dM_next_12 rfl (lv_at hl 0 rfl) ?_
      refine va_get (D := (dC, dI)) (ci := 10) (v := .int u_this_at) (C := RM) (T := TM) (N := 28) hx hb hts inZ_M hown hK hP 0 rfl rfl 24 (by decide) (hts _ zw_1068) (fun _ h9 => h9) rfl dM_next_13 ?_
      refine zcall_i hP hD hS hA [0, 1] [] (va_runV (As := [.int u_this_at]) (rest := []) ⟨hx, hb, hml, hown, hts⟩ (c_M_isGap l dC dI ad a_this a_units a_kinds a_values a_names a_low a_high a_told a_leftOut a_isMade a_hands a_pad a_court a_title a_out k_units _ u_this_at v_this_thrown v_this_size v_this_families v_this_atHand v_this_family v_this_density v_this_pads v_this_hasThermal v_this_titleSize v_this_written u_this_at v_this_begin v_this_words v_this_paste0 v_units _ h) ⟨callB_of 1 hts (zgood zc_M_isGap) rfl rfl rfl (hts _ zw_107) (hts _ zw_1145) (by decide +kernel) ⟨Nat.le_of_ble_eq_true rfl, Nat.le_of_ble_eq_true rfl⟩, (hts _ zw_1147), (hts _ zw_70)⟩ (zpreV hE hK hP hD hS hA [0, 1] [0] (by rfl) (by rfl) (by decide) (ci := 10) (q0 := 0) rfl (by rfl)) rfl rfl hl.1 rfl (lv_room (Nat.le_of_ble_eq_true rfl)) dM_next_16 ⟨Nat.le_of_ble_eq_true rfl, Nat.le_of_ble_eq_true rfl⟩) (by rfl) (by rfl) (by decide) (by decide) (fun r2 u H locs h hP hD hS => ?_)
      try dsimp only at h
      have hP := hP.sub (ws' := (w_M_next ad a_this a_units a_kinds a_values a_names a_low a_high a_told a_leftOut a_isMade a_hands a_pad a_court a_title a_out k_units v_this_thrown v_this_size v_this_families v_this_atHand v_this_family v_this_density v_this_pads v_this_hasThermal v_this_titleSize v_this_written u_this_at v_this_begin v_this_words v_this_paste0 v_units)) [0, 1] rfl
      have hD := hD.sub (ws' := (w_M_next ad a_this a_units a_kinds a_values a_names a_low a_high a_told a_leftOut a_isMade a_hands a_pad a_court a_title a_out k_units v_this_thrown v_this_size v_this_families v_this_atHand v_this_family v_this_density v_this_pads v_this_hasThermal v_this_titleSize v_this_written u_this_at v_this_begin v_this_words v_this_paste0 v_units)) [0, 1] (by decide) rfl
      refine lv_if_eq (tgt := 35) hx hb dM_next_19 (by decide) ?_ ?_
      · intro c3
        replace h := h.1 c3
        exact w_M_next_35 l C0 hE a_this a_units a_kinds a_values a_names a_low a_high a_told a_leftOut a_isMade a_hands a_pad a_court a_title a_out k_units v_this_thrown v_this_size v_this_families v_this_atHand v_this_family v_this_density v_this_pads v_this_hasThermal v_this_titleSize v_this_written v_this_at v_this_begin v_this_words v_this_paste0 v_units post hK u_this_at _ _ h hP hD hS ls (lv_sub hl [0] rfl)
      · intro c3
        replace h := h.2 c3
        refine lv_aload_n hx hb dM_next_22 rfl (lv_at hl 0 rfl) ?_
        refine lv_dup hx hb dM_next_23 rfl ?_
        refine va_get (D := (dC, dI)) (ci := 10) (v := .int u_this_at) (C := RM) (T := TM) (N := 28) hx hb hts inZ_M hown hK hP 0 rfl rfl 24 (by decide) (hts _ zw_1068) (fun _ h9 => h9) rfl dM_next_24 ?_
        refine lv_iconst (v := 1) hx hb dM_next_27 (by decide) ?_
        refine lv_iadd hx hb dM_next_28 ?_
        refine lv_topi (fun x4 ex4 => ?_)
        replace h := h x4 ex4
        refine va_put (D := (dC, dI)) (ci := 10) (v := .int x4) (ty := .int) (C := RM) (T := TM) (N := 28) hx hb hts inZ_M tyM tyM_ok nmM hown hK hP hD hS 0 rfl rfl 24 (by decide) (hts _ zw_1068) (fun _ h9 => h9) rfl (by decide +kernel) rfl rfl (Nat.le_of_ble_eq_true rfl) dM_next_29 (fun H locs hP hD hS => ?_)
        have hP : va_P (dC, dI) vwCl (w_M_next ad a_this a_units a_kinds a_values a_names a_low a_high a_told a_leftOut a_isMade a_hands a_pad a_court a_title a_out k_units v_this_thrown v_this_size v_this_families v_this_atHand v_this_family v_this_density v_this_pads v_this_hasThermal v_this_titleSize v_this_written x4 v_this_begin v_this_words v_this_paste0 v_units) H := hP
        have hD : va_D A (w_M_next ad a_this a_units a_kinds a_values a_names a_low a_high a_told a_leftOut a_isMade a_hands a_pad a_court a_title a_out k_units v_this_thrown v_this_size v_this_families v_this_atHand v_this_family v_this_density v_this_pads v_this_hasThermal v_this_titleSize v_this_written x4 v_this_begin v_this_words v_this_paste0 v_units) := hD
        refine lv_goto (tgt := 0) hx hb dM_next_32 (by decide) ?_
        exact ih x4 _ _ h hP hD hS ls (lv_sub hl [0] rfl)
def P_M_next (v_this_size : Int32) (v_this_at : Int32) (v_this_words : Int32) (v_units : Nat → Int32) (post : Int32 → Int32 → Int32 → Int32 → Prop) : Prop := ∃ n1, P_M_next_0 v_this_size v_this_words v_units post n1 v_this_at
set_option maxHeartbeats 4000000 in
set_option maxRecDepth 100000 in
theorem c_M_next (l : Launch) (dC : Nat → ClassId) (dI : Nat → Nat → Nat) (ad : Nat → Nat → Nat) (a_this : Nat) (a_units : Nat) (a_kinds : Nat) (a_values : Nat) (a_names : Nat) (a_low : Nat) (a_high : Nat) (a_told : Nat) (a_leftOut : Nat) (a_isMade : Nat) (a_hands : Nat) (a_pad : Nat) (a_court : Nat) (a_title : Nat) (a_out : Nat) (k_units : ClassId) (sz : Nat) (v_this_thrown : Int32) (v_this_size : Int32) (v_this_families : Int32) (v_this_atHand : Int32) (v_this_family : Int32) (v_this_density : Int32) (v_this_pads : Int32) (v_this_hasThermal : Int32) (v_this_titleSize : Int32) (v_this_written : Int32) (v_this_at : Int32) (v_this_begin : Int32) (v_this_words : Int32) (v_this_paste0 : Int64) (v_units : Nat → Int32) (post : Int32 → Int32 → Int32 → Int32 → Prop) (h : P_M_next v_this_size v_this_at v_this_words v_units post) : zMi l yM_next wsM_next { frames := 1, cells := 0, slots := 0, locals := 21 } (dC, dI) ad [.ref a_this] (w_M_next ad a_this a_units a_kinds a_values a_names a_low a_high a_told a_leftOut a_isMade a_hands a_pad a_court a_title a_out k_units v_this_thrown v_this_size v_this_families v_this_atHand v_this_family v_this_density v_this_pads v_this_hasThermal v_this_titleSize v_this_written v_this_at v_this_begin v_this_words v_this_paste0 v_units) [(k_units, .int)] sz (fun (r : Int32) (u : Int32 × Int32 × Int32) => post r u.1 u.2.1 u.2.2) (fun (u : Int32 × Int32 × Int32) => (w_M_next ad a_this a_units a_kinds a_values a_names a_low a_high a_told a_leftOut a_isMade a_hands a_pad a_court a_title a_out k_units v_this_thrown v_this_size v_this_families v_this_atHand v_this_family v_this_density v_this_pads v_this_hasThermal v_this_titleSize v_this_written u.1 u.2.1 u.2.2 v_this_paste0 v_units)) 0 0 := by
  refine Met.ofW (cc := cM_next) (maxL := 1) (ret := (some .boolean)) (by decide +kernel) rfl ?_
  intro p e s m args below meth c s₁ B hml hv
  obtain ⟨rfl, hsz, hP, hK, hD0, hE⟩ := hv
  have hx := B.exec
  have hb := B.bytes
  have hr := B.returns
  have hts0 := atoms_spec (ws := wsM_next) B.pre
  have hts := fun w h => hts0 w (List.mem_cons_of_mem _ h)
  have hown : s.vm.findClass RM = some m.cls := findClass_of_methodNamed B.named
  have hlocks := B.notSynchronized
  subst hsz
  have hD := hD0.self (sz := s.heap.size)
  generalize hAe : va_A (w_M_next ad a_this a_units a_kinds a_values a_names a_low a_high a_told a_leftOut a_isMade a_hands a_pad a_court a_title a_out k_units v_this_thrown v_this_size v_this_families v_this_atHand v_this_family v_this_density v_this_pads v_this_hasThermal v_this_titleSize v_this_written v_this_at v_this_begin v_this_words v_this_paste0 v_units) s.heap.size = A at hD hE ⊢
  have hA : ∀ q : Nat, s.heap.size ≤ q → A q := fun q h => by rw [← hAe]; exact Or.inr h
  have C0 := zC.mk hx hb hr hml hown hts hlocks hA
  have hS : va_S A s.heap s.heap [] := va_S.rf
  have hl := lv_entry ([.ref a_this]) (n := 1) (Nat.le_of_ble_eq_true rfl)
  rw [lg_entry_eq]
  generalize (lg_sl ([.ref a_this]) ++ List.replicate (1 - (lg_sl ([.ref a_this])).length) Slot.unset).toArray = ls at hl ⊢
  have hl : lv_has ls 1 [(0, .ref a_this)] := hl
  unfold P_M_next at h
  obtain ⟨n1, h⟩ := h
  exact w_M_next_0 l C0 hE a_this a_units a_kinds a_values a_names a_low a_high a_told a_leftOut a_isMade a_hands a_pad a_court a_title a_out k_units v_this_thrown v_this_size v_this_families v_this_atHand v_this_family v_this_density v_this_pads v_this_hasThermal v_this_titleSize v_this_written v_this_at v_this_begin v_this_words v_this_paste0 v_units post hK n1 v_this_at _ _ h hP hD hS ls (lv_sub hl [0] rfl)
abbrev yM_letters : MethodName := ⟨"FootprintRulesModel", "letters", "(II)J"⟩
abbrev cM_letters : ByteArray := prog_14_method_6_code
abbrev wsM_letters : List Cond := .code yM_letters cM_letters 7 (some .long) :: zT
set_option maxRecDepth 100000 in
theorem zc_M_letters : Cond.code yM_letters cM_letters 7 (some .long) ∈ zT := zm 1152 (by rfl) (by rfl)
theorem dM_letters_0 : decode cM_letters 0 = .ok (.lconst 0, 1) := by decide +kernel
theorem dM_letters_1 : decode cM_letters 1 = .ok (.lstore_n 3, 1) := by decide +kernel
theorem dM_letters_2 : decode cM_letters 2 = .ok (.aload_n 0, 1) := by decide +kernel
theorem dM_letters_3 : decode cM_letters 3 = .ok (.getfield 68, 3) := by decide +kernel
theorem dM_letters_6 : decode cM_letters 6 = .ok (.istore 5, 2) := by decide +kernel
theorem dM_letters_8 : decode cM_letters 8 = .ok (.iload 5, 2) := by decide +kernel
theorem dM_letters_10 : decode cM_letters 10 = .ok (.aload_n 0, 1) := by decide +kernel
theorem dM_letters_11 : decode cM_letters 11 = .ok (.getfield 61, 3) := by decide +kernel
theorem dM_letters_14 : decode cM_letters 14 = .ok (.if_icmp .ge 49, 3) := by decide +kernel
theorem dM_letters_17 : decode cM_letters 17 = .ok (.aload_n 0, 1) := by decide +kernel
theorem dM_letters_18 : decode cM_letters 18 = .ok (.getfield 7, 3) := by decide +kernel
theorem dM_letters_21 : decode cM_letters 21 = .ok (.iload 5, 2) := by decide +kernel
theorem dM_letters_23 : decode cM_letters 23 = .ok (.iaload, 1) := by decide +kernel
theorem dM_letters_24 : decode cM_letters 24 = .ok (.iload_n 1, 1) := by decide +kernel
theorem dM_letters_25 : decode cM_letters 25 = .ok (.isub, 1) := by decide +kernel
theorem dM_letters_26 : decode cM_letters 26 = .ok (.iconst 1, 1) := by decide +kernel
theorem dM_letters_27 : decode cM_letters 27 = .ok (.iadd, 1) := by decide +kernel
theorem dM_letters_28 : decode cM_letters 28 = .ok (.istore 6, 2) := by decide +kernel
theorem dM_letters_30 : decode cM_letters 30 = .ok (.iload 6, 2) := by decide +kernel
theorem dM_letters_32 : decode cM_letters 32 = .ok (.iconst 1, 1) := by decide +kernel
theorem dM_letters_33 : decode cM_letters 33 = .ok (.if_icmp .lt 10, 3) := by decide +kernel
theorem dM_letters_36 : decode cM_letters 36 = .ok (.iload 6, 2) := by decide +kernel
theorem dM_letters_38 : decode cM_letters 38 = .ok (.bipush 26, 2) := by decide +kernel
theorem dM_letters_40 : decode cM_letters 40 = .ok (.if_icmp .le 7, 3) := by decide +kernel
theorem dM_letters_43 : decode cM_letters 43 = .ok (.ldc2_w 74, 3) := by decide +kernel
theorem dM_letters_46 : decode cM_letters 46 = .ok (.lreturn, 1) := by decide +kernel
theorem dM_letters_47 : decode cM_letters 47 = .ok (.ldc2_w 76, 3) := by decide +kernel
theorem dM_letters_50 : decode cM_letters 50 = .ok (.lload_n 3, 1) := by decide +kernel
theorem dM_letters_51 : decode cM_letters 51 = .ok (.lmul, 1) := by decide +kernel
theorem dM_letters_52 : decode cM_letters 52 = .ok (.iload 6, 2) := by decide +kernel
theorem dM_letters_54 : decode cM_letters 54 = .ok (.i2l, 1) := by decide +kernel
theorem dM_letters_55 : decode cM_letters 55 = .ok (.ladd, 1) := by decide +kernel
theorem dM_letters_56 : decode cM_letters 56 = .ok (.lstore_n 3, 1) := by decide +kernel
theorem dM_letters_57 : decode cM_letters 57 = .ok (.iinc 5 1, 3) := by decide +kernel
theorem dM_letters_60 : decode cM_letters 60 = .ok (.goto (-52), 3) := by decide +kernel
theorem dM_letters_63 : decode cM_letters 63 = .ok (.aload_n 0, 1) := by decide +kernel
theorem dM_letters_64 : decode cM_letters 64 = .ok (.getfield 61, 3) := by decide +kernel
theorem dM_letters_67 : decode cM_letters 67 = .ok (.aload_n 0, 1) := by decide +kernel
theorem dM_letters_68 : decode cM_letters 68 = .ok (.getfield 68, 3) := by decide +kernel
theorem dM_letters_71 : decode cM_letters 71 = .ok (.isub, 1) := by decide +kernel
theorem dM_letters_72 : decode cM_letters 72 = .ok (.iload_n 2, 1) := by decide +kernel
theorem dM_letters_73 : decode cM_letters 73 = .ok (.if_icmp .le 9, 3) := by decide +kernel
theorem dM_letters_76 : decode cM_letters 76 = .ok (.ldc2_w 74, 3) := by decide +kernel
theorem dM_letters_79 : decode cM_letters 79 = .ok (.goto 4, 3) := by decide +kernel
theorem dM_letters_82 : decode cM_letters 82 = .ok (.lload_n 3, 1) := by decide +kernel
theorem dM_letters_83 : decode cM_letters 83 = .ok (.lreturn, 1) := by decide +kernel
-- FootprintRulesModel.letters(II)J
abbrev w_M_letters (ad : Nat → Nat → Nat) (a_this : Nat) (a_units : Nat) (a_kinds : Nat) (a_values : Nat) (a_names : Nat) (a_low : Nat) (a_high : Nat) (a_told : Nat) (a_leftOut : Nat) (a_isMade : Nat) (a_hands : Nat) (a_pad : Nat) (a_court : Nat) (a_title : Nat) (a_out : Nat) (k_units : ClassId) (v_this_thrown : Int32) (v_this_size : Int32) (v_this_families : Int32) (v_this_atHand : Int32) (v_this_family : Int32) (v_this_density : Int32) (v_this_pads : Int32) (v_this_hasThermal : Int32) (v_this_titleSize : Int32) (v_this_written : Int32) (v_this_at : Int32) (v_this_begin : Int32) (v_this_words : Int32) (v_this_paste0 : Int64) (v_units : Nat → Int32) : va_W := [(a_this, .inr (10, [.int v_this_thrown, .ref a_units, .int v_this_size, .int v_this_families, .ref a_kinds, .ref a_values, .ref a_names, .ref a_low, .ref a_high, .ref a_told, .ref a_leftOut, .ref a_isMade, .ref a_hands, .int v_this_atHand, .int v_this_family, .int v_this_density, .int v_this_pads, .ref a_pad, .ref a_court, .int v_this_hasThermal, .ref a_title, .int v_this_titleSize, .ref a_out, .int v_this_written, .int v_this_at, .int v_this_begin, .int v_this_words, .long v_this_paste0])), (a_units, .inl (k_units, 600, .inl v_units))]
def P_M_letters_8 (p1 : Int32) (p2 : Int32) (v_this_at : Int32) (v_this_begin : Int32) (v_units : Nat → Int32) (post : Int64 → Prop) : Nat → Int64 → Int32 → Prop
  | 0, _, _ => False
  | n + 1, y3, y5 => ((v_this_at ≤ y5 → (((v_this_at - v_this_begin) ≤ p2 → post y3) ∧ (¬ (v_this_at - v_this_begin) ≤ p2 → post (-1)))) ∧ (¬ v_this_at ≤ y5 → vp_in y5 600 ∧ ∀ x4 : Int32, x4 = ((v_units y5.toNatClampNeg) - p1) + 1 → ((x4 < 1 → post (-1)) ∧ (¬ x4 < 1 → ((x4 ≤ 26 → ∀ x7 : Int64, x7 = (27 * y3) + x4.toInt64 → ∀ x8 : Int32, x8 = y5 + 1 → P_M_letters_8 p1 p2 v_this_at v_this_begin v_units post n x7 x8) ∧ (¬ x4 ≤ 26 → post (-1)))))))
set_option maxHeartbeats 4000000 in
set_option maxRecDepth 100000 in
theorem w_M_letters_8 (l : Launch) {p : Program} {e : Env} {s : State} {m : MethodId} {args : Array Value} {below : List Frame} {meth : Method} {c : Code} {dC : Nat → ClassId} {dI : Nat → Nat → Nat} {ad : Nat → Nat → Nat} {A : Nat → Prop} (C0 : zC p s m args meth c cM_letters 7 RM zT (some .long) A) (hE : zE ad A s) (a_this : Nat) (a_units : Nat) (a_kinds : Nat) (a_values : Nat) (a_names : Nat) (a_low : Nat) (a_high : Nat) (a_told : Nat) (a_leftOut : Nat) (a_isMade : Nat) (a_hands : Nat) (a_pad : Nat) (a_court : Nat) (a_title : Nat) (a_out : Nat) (k_units : ClassId) (p1 : Int32) (p2 : Int32) (v_this_thrown : Int32) (v_this_size : Int32) (v_this_families : Int32) (v_this_atHand : Int32) (v_this_family : Int32) (v_this_density : Int32) (v_this_pads : Int32) (v_this_hasThermal : Int32) (v_this_titleSize : Int32) (v_this_written : Int32) (v_this_at : Int32) (v_this_begin : Int32) (v_this_words : Int32) (v_this_paste0 : Int64) (v_units : Nat → Int32) (post : Int64 → Prop) (hK : va_K (dC, dI) vwCl [(k_units, .int)] s) : ∀ (n : Nat), ∀ (y3 : Int64) (y5 : Int32) (H : Heap) (locs : List Loc), P_M_letters_8 p1 p2 v_this_at v_this_begin v_units post n y3 y5 → va_P (dC, dI) vwCl (w_M_letters ad a_this a_units a_kinds a_values a_names a_low a_high a_told a_leftOut a_isMade a_hands a_pad a_court a_title a_out k_units v_this_thrown v_this_size v_this_families v_this_atHand v_this_family v_this_density v_this_pads v_this_hasThermal v_this_titleSize v_this_written v_this_at v_this_begin v_this_words v_this_paste0 v_units) H → va_D A (w_M_letters ad a_this a_units a_kinds a_values a_names a_low a_high a_told a_leftOut a_isMade a_hands a_pad a_court a_title a_out k_units v_this_thrown v_this_size v_this_families v_this_atHand v_this_family v_this_density v_this_pads v_this_hasThermal v_this_titleSize v_this_written v_this_at v_this_begin v_this_words v_this_paste0 v_units) → va_S A s.heap H locs → ∀ ls : Array Slot, lv_has ls 7 [(0, .ref a_this), (1, .int p1), (2, .int p2), (3, .long y3), (5, .int y5)] → W p l e (headSpec wsM_letters { frames := 0, cells := 0, slots := 0, locals := 0 }).room s m args below meth c H locs 0 0 (MQ below (va_Ql (fun (r : Int64) (u : Unit) => post r) (zB (dC, dI) A (fun (u : Unit) => (w_M_letters ad a_this a_units a_kinds a_values a_names a_low a_high a_told a_leftOut a_isMade a_hands a_pad a_court a_title a_out k_units v_this_thrown v_this_size v_this_families v_this_atHand v_this_family v_this_density v_this_pads v_this_hasThermal v_this_titleSize v_this_written v_this_at v_this_begin v_this_words v_this_paste0 v_units))) A) args s 0 0 A) (F0 m 8 ls []) := by
  obtain ⟨hx, hb, hr, hml, hown, hts, hlocks, hA⟩ := id C0
  intro n
  induction n with
  | zero =>
    intro y3 y5 H locs h
    exact False.elim h
  | succ n ih =>
    intro y3 y5 H locs h hP hD hS ls hl
    rw [P_M_letters_8] at h
    refine lv_iload hx hb dM_letters_8 (lv_at hl 4 rfl) ?_
    refine lv_aload_n hx hb dM_letters_10 rfl (lv_at hl 0 rfl) ?_
    refine va_get (D := (dC, dI)) (ci := 10) (v := .int v_this_at) (C := RM) (T := TM) (N := 28) hx hb hts inZ_M hown hK hP 0 rfl rfl 24 (by decide) (hts _ zw_1068) (fun _ h9 => h9) rfl dM_letters_11 ?_
    refine lv_icmp_ge (tgt := 63) hx hb dM_letters_14 (by decide) ?_ ?_
    · intro c1
      replace h := h.1 c1
      refine lv_aload_n hx hb dM_letters_63 rfl (lv_at hl 0 rfl) ?_
      refine va_get (D := (dC, dI)) (ci := 10) (v := .int v_this_at) (C := RM) (T := TM) (N := 28) hx hb hts inZ_M hown hK hP 0 rfl rfl 24 (by decide) (hts _ zw_1068) (fun _ h9 => h9) rfl dM_letters_64 ?_
      refine lv_aload_n hx hb dM_letters_67 rfl (lv_at hl 0 rfl) ?_
      refine va_get (D := (dC, dI)) (ci := 10) (v := .int v_this_begin) (C := RM) (T := TM) (N := 28) hx hb hts inZ_M hown hK hP 0 rfl rfl 25 (by decide) (hts _ zw_1069) (fun _ h9 => h9) rfl dM_letters_68 ?_
      refine lv_isub hx hb dM_letters_71 ?_
      refine lv_iload_n hx hb dM_letters_72 rfl (lv_at hl 2 rfl) ?_
      refine lv_icmp_le (tgt := 82) hx hb dM_letters_73 (by decide) ?_ ?_
      · intro c2
        replace h := h.1 c2
        refine lv_lload_n hx hb dM_letters_82 rfl (lv_at hl 3 rfl) ?_
        exact W.lret (v := y3) hx hb hr (fun t ht hW => ⟨⟨y3, (()), rfl, h, by rw [ht]; exact hP, hD⟩, hS.F ht⟩) hS.2.2 dM_letters_83
      · intro c2
        replace h := h.2 c2
        refine lv_ldc2 (own := RM) (index := 74) (v := (-1)) hx hb hown (hts _ zw_1153) dM_letters_76 ?_
        refine lv_goto (tgt := 83) hx hb dM_letters_79 (by decide) ?_
        exact W.lret (v := (-1)) hx hb hr (fun t ht hW => ⟨⟨(-1), (()), rfl, h, by rw [ht]; exact hP, hD⟩, hS.F ht⟩) hS.2.2 dM_letters_83
    · intro c1
      replace h := h.2 c1
      refine lv_aload_n hx hb dM_letters_17 rfl (lv_at hl 0 rfl) ?_
      refine va_get (D := (dC, dI)) (ci := 10) (v := .ref a_units) (C := RM) (T := TM) (N := 28) hx hb hts inZ_M hown hK hP 0 rfl rfl 1 (by decide) (hts _ zw_1045) (fun _ h9 => h9) rfl dM_letters_18 ?_
      refine lv_iload hx hb dM_letters_21 (lv_at hl 4 rfl) ?_
      obtain ⟨hn3, h⟩ := h
      refine va_iald hx hb hK hP 1 0 rfl rfl hn3 dM_letters_23 ?_
      refine lv_iload_n hx hb dM_letters_24 rfl (lv_at hl 1 rfl) ?_
      refine lv_isub hx hb dM_letters_25 ?_
      refine lv_iconst (v := 1) hx hb dM_letters_26 (by decide) ?_
      refine lv_iadd hx hb dM_letters_27 ?_
      refine lv_topi (fun x4 ex4 => ?_)
      replace h := h x4 ex4
      refine lv_istore (lv' := [(6, .int x4), (0, .ref a_this), (1, .int p1), (2, .int p2), (3, .long y3), (5, .int y5)]) hx hb dM_letters_28 hl (by decide) rfl (fun ls hl => ?_)
      refine lv_iload hx hb dM_letters_30 (lv_at hl 0 rfl) ?_
      refine lv_iconst (v := 1) hx hb dM_letters_32 (by decide) ?_
      refine lv_icmp_lt (tgt := 43) hx hb dM_letters_33 (by decide) ?_ ?_
      · intro c5
        replace h := h.1 c5
        refine lv_ldc2 (own := RM) (index := 74) (v := (-1)) hx hb hown (hts _ zw_1153) dM_letters_43 ?_
        exact W.lret (v := (-1)) hx hb hr (fun t ht hW => ⟨⟨(-1), (()), rfl, h, by rw [ht]; exact hP, hD⟩, hS.F ht⟩) hS.2.2 dM_letters_46
      · intro c5
        replace h := h.2 c5
        refine lv_iload hx hb dM_letters_36 (lv_at hl 0 rfl) ?_
        refine lv_bipush (v := 26) hx hb dM_letters_38 (by decide) ?_
        refine lv_icmp_le (tgt := 47) hx hb dM_letters_40 (by decide) ?_ ?_
        · intro c6
          replace h := h.1 c6
          refine lv_ldc2 (own := RM) (index := 76) (v := 27) hx hb hown (hts _ zw_1154) dM_letters_47 ?_
          refine lv_lload_n hx hb dM_letters_50 rfl (lv_at hl 4 rfl) ?_
          refine lv_lmul hx hb dM_letters_51 ?_
          refine lv_iload hx hb dM_letters_52 (lv_at hl 0 rfl) ?_
          refine lv_i2l hx hb dM_letters_54 rfl ?_
          refine lv_ladd hx hb dM_letters_55 ?_
          refine lv_topl (fun x7 ex7 => ?_)
          replace h := h x7 ex7
          refine lv_lstore_n (lv' := [(3, .long x7), (6, .int x4), (0, .ref a_this), (1, .int p1), (2, .int p2), (5, .int y5)]) hx hb dM_letters_56 rfl hl (by decide) rfl (fun ls hl => ?_)
          obtain ⟨x8, ex8⟩ : ∃ y : Int32, y = y5 + 1 := ⟨_, rfl⟩
          replace h := h x8 ex8
          refine lv_iinc (v := x8) (lv' := [(5, .int x8), (3, .long x7), (6, .int x4), (0, .ref a_this), (1, .int p1), (2, .int p2)]) hx hb dM_letters_57 hl (k := 5) rfl (by rw [ex8]; rfl) (by decide) rfl (fun ls hl => ?_)
          refine lv_goto (tgt := 8) hx hb dM_letters_60 (by decide) ?_
          exact ih x7 x8 _ _ h hP hD hS ls (lv_sub hl [3, 4, 5, 1, 0] rfl)
        · intro c6
          replace h := h.2 c6
          refine lv_ldc2 (own := RM) (index := 74) (v := (-1)) hx hb hown (hts _ zw_1153) dM_letters_43 ?_
          exact W.lret (v := (-1)) hx hb hr (fun t ht hW => ⟨⟨(-1), (()), rfl, h, by rw [ht]; exact hP, hD⟩, hS.F ht⟩) hS.2.2 dM_letters_46
def P_M_letters (p1 : Int32) (p2 : Int32) (v_this_at : Int32) (v_this_begin : Int32) (v_units : Nat → Int32) (post : Int64 → Prop) : Prop := ∃ n1, P_M_letters_8 p1 p2 v_this_at v_this_begin v_units post n1 0 v_this_begin
set_option maxHeartbeats 4000000 in
set_option maxRecDepth 100000 in
theorem c_M_letters (l : Launch) (dC : Nat → ClassId) (dI : Nat → Nat → Nat) (ad : Nat → Nat → Nat) (a_this : Nat) (a_units : Nat) (a_kinds : Nat) (a_values : Nat) (a_names : Nat) (a_low : Nat) (a_high : Nat) (a_told : Nat) (a_leftOut : Nat) (a_isMade : Nat) (a_hands : Nat) (a_pad : Nat) (a_court : Nat) (a_title : Nat) (a_out : Nat) (k_units : ClassId) (sz : Nat) (p1 : Int32) (p2 : Int32) (v_this_thrown : Int32) (v_this_size : Int32) (v_this_families : Int32) (v_this_atHand : Int32) (v_this_family : Int32) (v_this_density : Int32) (v_this_pads : Int32) (v_this_hasThermal : Int32) (v_this_titleSize : Int32) (v_this_written : Int32) (v_this_at : Int32) (v_this_begin : Int32) (v_this_words : Int32) (v_this_paste0 : Int64) (v_units : Nat → Int32) (post : Int64 → Prop) (h : P_M_letters p1 p2 v_this_at v_this_begin v_units post) : zMl l yM_letters wsM_letters { frames := 0, cells := 0, slots := 0, locals := 0 } (dC, dI) ad [.ref a_this, .int p1, .int p2] (w_M_letters ad a_this a_units a_kinds a_values a_names a_low a_high a_told a_leftOut a_isMade a_hands a_pad a_court a_title a_out k_units v_this_thrown v_this_size v_this_families v_this_atHand v_this_family v_this_density v_this_pads v_this_hasThermal v_this_titleSize v_this_written v_this_at v_this_begin v_this_words v_this_paste0 v_units) [(k_units, .int)] sz (fun (r : Int64) (u : Unit) => post r) (fun (u : Unit) => (w_M_letters ad a_this a_units a_kinds a_values a_names a_low a_high a_told a_leftOut a_isMade a_hands a_pad a_court a_title a_out k_units v_this_thrown v_this_size v_this_families v_this_atHand v_this_family v_this_density v_this_pads v_this_hasThermal v_this_titleSize v_this_written v_this_at v_this_begin v_this_words v_this_paste0 v_units)) 0 0 := by
  refine Met.ofW (cc := cM_letters) (maxL := 7) (ret := (some .long)) (by decide +kernel) rfl ?_
  intro p e s m args below meth c s₁ B hml hv
  obtain ⟨rfl, hsz, hP, hK, hD0, hE⟩ := hv
  have hx := B.exec
  have hb := B.bytes
  have hr := B.returns
  have hts0 := atoms_spec (ws := wsM_letters) B.pre
  have hts := fun w h => hts0 w (List.mem_cons_of_mem _ h)
  have hown : s.vm.findClass RM = some m.cls := findClass_of_methodNamed B.named
  have hlocks := B.notSynchronized
  subst hsz
  have hD := hD0.self (sz := s.heap.size)
  generalize hAe : va_A (w_M_letters ad a_this a_units a_kinds a_values a_names a_low a_high a_told a_leftOut a_isMade a_hands a_pad a_court a_title a_out k_units v_this_thrown v_this_size v_this_families v_this_atHand v_this_family v_this_density v_this_pads v_this_hasThermal v_this_titleSize v_this_written v_this_at v_this_begin v_this_words v_this_paste0 v_units) s.heap.size = A at hD hE ⊢
  have hA : ∀ q : Nat, s.heap.size ≤ q → A q := fun q h => by rw [← hAe]; exact Or.inr h
  have C0 := zC.mk hx hb hr hml hown hts hlocks hA
  have hS : va_S A s.heap s.heap [] := va_S.rf
  have hl := lv_entry ([.ref a_this, .int p1, .int p2]) (n := 7) (Nat.le_of_ble_eq_true rfl)
  rw [lg_entry_eq]
  generalize (lg_sl ([.ref a_this, .int p1, .int p2]) ++ List.replicate (7 - (lg_sl ([.ref a_this, .int p1, .int p2])).length) Slot.unset).toArray = ls at hl ⊢
  have hl : lv_has ls 7 [(0, .ref a_this), (1, .int p1), (2, .int p2)] := hl
  unfold P_M_letters at h
  refine lv_lconst (v := 0) hx hb dM_letters_0 (by decide) ?_
  refine lv_lstore_n (lv' := [(3, .long 0), (0, .ref a_this), (1, .int p1), (2, .int p2)]) hx hb dM_letters_1 rfl hl (by decide) rfl (fun ls hl => ?_)
  refine lv_aload_n hx hb dM_letters_2 rfl (lv_at hl 1 rfl) ?_
  refine va_get (D := (dC, dI)) (ci := 10) (v := .int v_this_begin) (C := RM) (T := TM) (N := 28) hx hb hts inZ_M hown hK hP 0 rfl rfl 25 (by decide) (hts _ zw_1069) (fun _ h9 => h9) rfl dM_letters_3 ?_
  refine lv_istore (lv' := [(5, .int v_this_begin), (3, .long 0), (0, .ref a_this), (1, .int p1), (2, .int p2)]) hx hb dM_letters_6 hl (by decide) rfl (fun ls hl => ?_)
  obtain ⟨n1, h⟩ := h
  exact w_M_letters_8 l C0 hE a_this a_units a_kinds a_values a_names a_low a_high a_told a_leftOut a_isMade a_hands a_pad a_court a_title a_out k_units p1 p2 v_this_thrown v_this_size v_this_families v_this_atHand v_this_family v_this_density v_this_pads v_this_hasThermal v_this_titleSize v_this_written v_this_at v_this_begin v_this_words v_this_paste0 v_units post hK n1 0 v_this_begin _ _ h hP hD hS ls (lv_sub hl [2, 3, 4, 1, 0] rfl)
abbrev yM_spelt : MethodName := ⟨"FootprintRulesModel", "spelt", "(IIIII)J"⟩
abbrev cM_spelt : ByteArray := prog_14_method_7_code
abbrev wsM_spelt : List Cond := .code yM_spelt cM_spelt 7 (some .long) :: zT
set_option maxRecDepth 100000 in
theorem zc_M_spelt : Cond.code yM_spelt cM_spelt 7 (some .long) ∈ zT := zm 1160 (by rfl) (by rfl)
theorem dM_spelt_0 : decode cM_spelt 0 = .ok (.ldc2_w 76, 3) := by decide +kernel
theorem dM_spelt_3 : decode cM_spelt 3 = .ok (.ldc2_w 76, 3) := by decide +kernel
theorem dM_spelt_6 : decode cM_spelt 6 = .ok (.iload_n 0, 1) := by decide +kernel
theorem dM_spelt_7 : decode cM_spelt 7 = .ok (.i2l, 1) := by decide +kernel
theorem dM_spelt_8 : decode cM_spelt 8 = .ok (.lmul, 1) := by decide +kernel
theorem dM_spelt_9 : decode cM_spelt 9 = .ok (.iload_n 1, 1) := by decide +kernel
theorem dM_spelt_10 : decode cM_spelt 10 = .ok (.i2l, 1) := by decide +kernel
theorem dM_spelt_11 : decode cM_spelt 11 = .ok (.ladd, 1) := by decide +kernel
theorem dM_spelt_12 : decode cM_spelt 12 = .ok (.lmul, 1) := by decide +kernel
theorem dM_spelt_13 : decode cM_spelt 13 = .ok (.iload_n 2, 1) := by decide +kernel
theorem dM_spelt_14 : decode cM_spelt 14 = .ok (.i2l, 1) := by decide +kernel
theorem dM_spelt_15 : decode cM_spelt 15 = .ok (.ladd, 1) := by decide +kernel
theorem dM_spelt_16 : decode cM_spelt 16 = .ok (.lstore 5, 2) := by decide +kernel
theorem dM_spelt_18 : decode cM_spelt 18 = .ok (.iload_n 3, 1) := by decide +kernel
theorem dM_spelt_19 : decode cM_spelt 19 = .ok (.ifCond .le 15, 3) := by decide +kernel
theorem dM_spelt_22 : decode cM_spelt 22 = .ok (.ldc2_w 76, 3) := by decide +kernel
theorem dM_spelt_25 : decode cM_spelt 25 = .ok (.lload 5, 2) := by decide +kernel
theorem dM_spelt_27 : decode cM_spelt 27 = .ok (.lmul, 1) := by decide +kernel
theorem dM_spelt_28 : decode cM_spelt 28 = .ok (.iload_n 3, 1) := by decide +kernel
theorem dM_spelt_29 : decode cM_spelt 29 = .ok (.i2l, 1) := by decide +kernel
theorem dM_spelt_30 : decode cM_spelt 30 = .ok (.ladd, 1) := by decide +kernel
theorem dM_spelt_31 : decode cM_spelt 31 = .ok (.goto 5, 3) := by decide +kernel
theorem dM_spelt_34 : decode cM_spelt 34 = .ok (.lload 5, 2) := by decide +kernel
theorem dM_spelt_36 : decode cM_spelt 36 = .ok (.lstore 5, 2) := by decide +kernel
theorem dM_spelt_38 : decode cM_spelt 38 = .ok (.iload 4, 2) := by decide +kernel
theorem dM_spelt_40 : decode cM_spelt 40 = .ok (.ifCond .le 16, 3) := by decide +kernel
theorem dM_spelt_43 : decode cM_spelt 43 = .ok (.ldc2_w 76, 3) := by decide +kernel
theorem dM_spelt_46 : decode cM_spelt 46 = .ok (.lload 5, 2) := by decide +kernel
theorem dM_spelt_48 : decode cM_spelt 48 = .ok (.lmul, 1) := by decide +kernel
theorem dM_spelt_49 : decode cM_spelt 49 = .ok (.iload 4, 2) := by decide +kernel
theorem dM_spelt_51 : decode cM_spelt 51 = .ok (.i2l, 1) := by decide +kernel
theorem dM_spelt_52 : decode cM_spelt 52 = .ok (.ladd, 1) := by decide +kernel
theorem dM_spelt_53 : decode cM_spelt 53 = .ok (.goto 5, 3) := by decide +kernel
theorem dM_spelt_56 : decode cM_spelt 56 = .ok (.lload 5, 2) := by decide +kernel
theorem dM_spelt_58 : decode cM_spelt 58 = .ok (.lreturn, 1) := by decide +kernel
-- FootprintRulesModel.spelt(IIIII)J
abbrev w_M_spelt (ad : Nat → Nat → Nat)    : va_W := []
def P_M_spelt_36 (p4 : Int32) (post : Int64 → Prop) (t0 : Int64) : Prop := ((p4 ≤ 0 → post t0) ∧ (¬ p4 ≤ 0 → post ((27 * t0) + p4.toInt64)))
set_option maxHeartbeats 4000000 in
set_option maxRecDepth 100000 in
theorem w_M_spelt_36 (l : Launch) {p : Program} {e : Env} {s : State} {m : MethodId} {args : Array Value} {below : List Frame} {meth : Method} {c : Code} {dC : Nat → ClassId} {dI : Nat → Nat → Nat} {ad : Nat → Nat → Nat} {A : Nat → Prop} (C0 : zC p s m args meth c cM_spelt 7 RM zT (some .long) A) (hE : zE ad A s)   (p0 : Int32) (p1 : Int32) (p2 : Int32) (p3 : Int32) (p4 : Int32) (post : Int64 → Prop) (hK : va_K (dC, dI) vwCl [] s) : ∀ (t0 : Int64) (H : Heap) (locs : List Loc), P_M_spelt_36 p4 post t0 → va_P (dC, dI) vwCl (w_M_spelt ad ) H → va_D A (w_M_spelt ad ) → va_S A s.heap H locs → ∀ ls : Array Slot, lv_has ls 7 [(4, .int p4)] → W p l e (headSpec wsM_spelt { frames := 0, cells := 0, slots := 0, locals := 0 }).room s m args below meth c H locs 0 0 (MQ below (va_Ql (fun (r : Int64) (u : Unit) => post r) (zB (dC, dI) A (fun (u : Unit) => (w_M_spelt ad ))) A) args s 0 0 A) (F0 m 36 ls [.long t0]) := by
  obtain ⟨hx, hb, hr, hml, hown, hts, hlocks, hA⟩ := id C0
  intro t0 H locs h hP hD hS ls hl
  unfold P_M_spelt_36 at h
  refine lv_lstore (lv' := [(5, .long t0), (4, .int p4)]) hx hb dM_spelt_36 hl (by decide) rfl (fun ls hl => ?_)
  refine lv_iload hx hb dM_spelt_38 (lv_at hl 1 rfl) ?_
  refine lv_if_le (tgt := 56) hx hb dM_spelt_40 (by decide) ?_ ?_
  · intro c1
    replace h := h.1 c1
    refine lv_lload hx hb dM_spelt_56 (lv_at hl 0 rfl) ?_
    exact W.lret (v := t0) hx hb hr (fun t ht hW => ⟨⟨t0, (()), rfl, h, by rw [ht]; exact hP, hD⟩, hS.F ht⟩) hS.2.2 dM_spelt_58
  · intro c1
    replace h := h.2 c1
    refine lv_ldc2 (own := RM) (index := 76) (v := 27) hx hb hown (hts _ zw_1154) dM_spelt_43 ?_
    refine lv_lload hx hb dM_spelt_46 (lv_at hl 0 rfl) ?_
    refine lv_lmul hx hb dM_spelt_48 ?_
    refine lv_iload hx hb dM_spelt_49 (lv_at hl 1 rfl) ?_
    refine lv_i2l hx hb dM_spelt_51 rfl ?_
    refine lv_ladd hx hb dM_spelt_52 ?_
    refine lv_goto (tgt := 58) hx hb dM_spelt_53 (by decide) ?_
    exact W.lret (v := ((27 * t0) + p4.toInt64)) hx hb hr (fun t ht hW => ⟨⟨((27 * t0) + p4.toInt64), (()), rfl, h, by rw [ht]; exact hP, hD⟩, hS.F ht⟩) hS.2.2 dM_spelt_58
def P_M_spelt (p0 : Int32) (p1 : Int32) (p2 : Int32) (p3 : Int32) (p4 : Int32) (post : Int64 → Prop) : Prop := ∀ x1 : Int64, x1 = (27 * ((27 * p0.toInt64) + p1.toInt64)) + p2.toInt64 → ((p3 ≤ 0 → P_M_spelt_36 p4 post x1) ∧ (¬ p3 ≤ 0 → P_M_spelt_36 p4 post ((27 * x1) + p3.toInt64)))
set_option maxHeartbeats 4000000 in
set_option maxRecDepth 100000 in
theorem c_M_spelt (l : Launch) (dC : Nat → ClassId) (dI : Nat → Nat → Nat) (ad : Nat → Nat → Nat)   (sz : Nat) (p0 : Int32) (p1 : Int32) (p2 : Int32) (p3 : Int32) (p4 : Int32) (post : Int64 → Prop) (h : P_M_spelt p0 p1 p2 p3 p4 post) : zMl l yM_spelt wsM_spelt { frames := 0, cells := 0, slots := 0, locals := 0 } (dC, dI) ad [.int p0, .int p1, .int p2, .int p3, .int p4] (w_M_spelt ad ) [] sz (fun (r : Int64) (u : Unit) => post r) (fun (u : Unit) => (w_M_spelt ad )) 0 0 := by
  refine Met.ofW (cc := cM_spelt) (maxL := 7) (ret := (some .long)) (by decide +kernel) rfl ?_
  intro p e s m args below meth c s₁ B hml hv
  obtain ⟨rfl, hsz, hP, hK, hD0, hE⟩ := hv
  have hx := B.exec
  have hb := B.bytes
  have hr := B.returns
  have hts0 := atoms_spec (ws := wsM_spelt) B.pre
  have hts := fun w h => hts0 w (List.mem_cons_of_mem _ h)
  have hown : s.vm.findClass RM = some m.cls := findClass_of_methodNamed B.named
  have hlocks := B.notSynchronized
  subst hsz
  have hD := hD0.self (sz := s.heap.size)
  generalize hAe : va_A (w_M_spelt ad ) s.heap.size = A at hD hE ⊢
  have hA : ∀ q : Nat, s.heap.size ≤ q → A q := fun q h => by rw [← hAe]; exact Or.inr h
  have C0 := zC.mk hx hb hr hml hown hts hlocks hA
  have hS : va_S A s.heap s.heap [] := va_S.rf
  have hl := lv_entry ([.int p0, .int p1, .int p2, .int p3, .int p4]) (n := 7) (Nat.le_of_ble_eq_true rfl)
  rw [lg_entry_eq]
  generalize (lg_sl ([.int p0, .int p1, .int p2, .int p3, .int p4]) ++ List.replicate (7 - (lg_sl ([.int p0, .int p1, .int p2, .int p3, .int p4])).length) Slot.unset).toArray = ls at hl ⊢
  have hl : lv_has ls 7 [(0, .int p0), (1, .int p1), (2, .int p2), (3, .int p3), (4, .int p4)] := hl
  unfold P_M_spelt at h
  refine lv_ldc2 (own := RM) (index := 76) (v := 27) hx hb hown (hts _ zw_1154) dM_spelt_0 ?_
  refine lv_ldc2 (own := RM) (index := 76) (v := 27) hx hb hown (hts _ zw_1154) dM_spelt_3 ?_
  refine lv_iload_n hx hb dM_spelt_6 rfl (lv_at hl 0 rfl) ?_
  refine lv_i2l hx hb dM_spelt_7 rfl ?_
  refine lv_lmul hx hb dM_spelt_8 ?_
  refine lv_iload_n hx hb dM_spelt_9 rfl (lv_at hl 1 rfl) ?_
  refine lv_i2l hx hb dM_spelt_10 rfl ?_
  refine lv_ladd hx hb dM_spelt_11 ?_
  refine lv_lmul hx hb dM_spelt_12 ?_
  refine lv_iload_n hx hb dM_spelt_13 rfl (lv_at hl 2 rfl) ?_
  refine lv_i2l hx hb dM_spelt_14 rfl ?_
  refine lv_ladd hx hb dM_spelt_15 ?_
  refine lv_topl (fun x1 ex1 => ?_)
  replace h := h x1 ex1
  refine lv_lstore (lv' := [(5, .long x1), (0, .int p0), (1, .int p1), (2, .int p2), (3, .int p3), (4, .int p4)]) hx hb dM_spelt_16 hl (by decide) rfl (fun ls hl => ?_)
  refine lv_iload_n hx hb dM_spelt_18 rfl (lv_at hl 4 rfl) ?_
  refine lv_if_le (tgt := 34) hx hb dM_spelt_19 (by decide) ?_ ?_
  · intro c2
    replace h := h.1 c2
    refine lv_lload hx hb dM_spelt_34 (lv_at hl 0 rfl) ?_
    exact w_M_spelt_36 l C0 hE p0 p1 p2 p3 p4 post hK x1 _ _ h hP hD hS ls (lv_sub hl [5] rfl)
  · intro c2
    replace h := h.2 c2
    refine lv_ldc2 (own := RM) (index := 76) (v := 27) hx hb hown (hts _ zw_1154) dM_spelt_22 ?_
    refine lv_lload hx hb dM_spelt_25 (lv_at hl 0 rfl) ?_
    refine lv_lmul hx hb dM_spelt_27 ?_
    refine lv_iload_n hx hb dM_spelt_28 rfl (lv_at hl 4 rfl) ?_
    refine lv_i2l hx hb dM_spelt_29 rfl ?_
    refine lv_ladd hx hb dM_spelt_30 ?_
    refine lv_goto (tgt := 36) hx hb dM_spelt_31 (by decide) ?_
    exact w_M_spelt_36 l C0 hE p0 p1 p2 p3 p4 post hK ((27 * x1) + p3.toInt64) _ _ h hP hD hS ls (lv_sub hl [5] rfl)
abbrev yM_kindName : MethodName := ⟨"FootprintRulesModel", "kindName", "(I)J"⟩
abbrev cM_kindName : ByteArray := prog_14_method_8_code
abbrev wsM_kindName : List Cond := .code yM_kindName cM_kindName 1 (some .long) :: zT
set_option maxRecDepth 100000 in
theorem zc_M_kindName : Cond.code yM_kindName cM_kindName 1 (some .long) ∈ zT := zm 1157 (by rfl) (by rfl)
theorem dM_kindName_0 : decode cM_kindName 0 = .ok (.iload_n 0, 1) := by decide +kernel
theorem dM_kindName_1 : decode cM_kindName 1 = .ok (.tableswitch 79 0 3 #[31, 43, 56, 68], 31) := by decide +kernel
theorem dM_kindName_32 : decode cM_kindName 32 = .ok (.iconst 3, 1) := by decide +kernel
theorem dM_kindName_33 : decode cM_kindName 33 = .ok (.bipush 8, 2) := by decide +kernel
theorem dM_kindName_35 : decode cM_kindName 35 = .ok (.bipush 9, 2) := by decide +kernel
theorem dM_kindName_37 : decode cM_kindName 37 = .ok (.bipush 16, 2) := by decide +kernel
theorem dM_kindName_39 : decode cM_kindName 39 = .ok (.iconst 0, 1) := by decide +kernel
theorem dM_kindName_40 : decode cM_kindName 40 = .ok (.invokestatic 78, 3) := by decide +kernel
theorem dM_kindName_43 : decode cM_kindName 43 = .ok (.lreturn, 1) := by decide +kernel
theorem dM_kindName_44 : decode cM_kindName 44 = .ok (.bipush 23, 2) := by decide +kernel
theorem dM_kindName_46 : decode cM_kindName 46 = .ok (.bipush 9, 2) := by decide +kernel
theorem dM_kindName_48 : decode cM_kindName 48 = .ok (.bipush 14, 2) := by decide +kernel
theorem dM_kindName_50 : decode cM_kindName 50 = .ok (.bipush 7, 2) := by decide +kernel
theorem dM_kindName_52 : decode cM_kindName 52 = .ok (.iconst 0, 1) := by decide +kernel
theorem dM_kindName_53 : decode cM_kindName 53 = .ok (.invokestatic 78, 3) := by decide +kernel
theorem dM_kindName_56 : decode cM_kindName 56 = .ok (.lreturn, 1) := by decide +kernel
theorem dM_kindName_57 : decode cM_kindName 57 = .ok (.bipush 12, 2) := by decide +kernel
theorem dM_kindName_59 : decode cM_kindName 59 = .ok (.iconst 5, 1) := by decide +kernel
theorem dM_kindName_60 : decode cM_kindName 60 = .ok (.bipush 19, 2) := by decide +kernel
theorem dM_kindName_62 : decode cM_kindName 62 = .ok (.bipush 19, 2) := by decide +kernel
theorem dM_kindName_64 : decode cM_kindName 64 = .ok (.iconst 0, 1) := by decide +kernel
theorem dM_kindName_65 : decode cM_kindName 65 = .ok (.invokestatic 78, 3) := by decide +kernel
theorem dM_kindName_68 : decode cM_kindName 68 = .ok (.lreturn, 1) := by decide +kernel
theorem dM_kindName_69 : decode cM_kindName 69 = .ok (.iconst 2, 1) := by decide +kernel
theorem dM_kindName_70 : decode cM_kindName 70 = .ok (.iconst 1, 1) := by decide +kernel
theorem dM_kindName_71 : decode cM_kindName 71 = .ok (.bipush 12, 2) := by decide +kernel
theorem dM_kindName_73 : decode cM_kindName 73 = .ok (.bipush 12, 2) := by decide +kernel
theorem dM_kindName_75 : decode cM_kindName 75 = .ok (.iconst 0, 1) := by decide +kernel
theorem dM_kindName_76 : decode cM_kindName 76 = .ok (.invokestatic 78, 3) := by decide +kernel
theorem dM_kindName_79 : decode cM_kindName 79 = .ok (.lreturn, 1) := by decide +kernel
theorem dM_kindName_80 : decode cM_kindName 80 = .ok (.bipush 8, 2) := by decide +kernel
theorem dM_kindName_82 : decode cM_kindName 82 = .ok (.bipush 15, 2) := by decide +kernel
theorem dM_kindName_84 : decode cM_kindName 84 = .ok (.bipush 12, 2) := by decide +kernel
theorem dM_kindName_86 : decode cM_kindName 86 = .ok (.iconst 5, 1) := by decide +kernel
theorem dM_kindName_87 : decode cM_kindName 87 = .ok (.iconst 0, 1) := by decide +kernel
theorem dM_kindName_88 : decode cM_kindName 88 = .ok (.invokestatic 78, 3) := by decide +kernel
theorem dM_kindName_91 : decode cM_kindName 91 = .ok (.lreturn, 1) := by decide +kernel
-- FootprintRulesModel.kindName(I)J
abbrev w_M_kindName (ad : Nat → Nat → Nat)    : va_W := []
def P_M_kindName (p0 : Int32) (post : Int64 → Prop) : Prop := ((p0 = 0 → P_M_spelt 3 8 9 16 0 (fun (r2 : Int64) => post r2)) ∧ (¬ p0 = 0 → ((p0 = 1 → P_M_spelt 23 9 14 7 0 (fun (r4 : Int64) => post r4)) ∧ (¬ p0 = 1 → ((p0 = 2 → P_M_spelt 12 5 19 19 0 (fun (r6 : Int64) => post r6)) ∧ (¬ p0 = 2 → ((p0 = 3 → P_M_spelt 2 1 12 12 0 (fun (r8 : Int64) => post r8)) ∧ (¬ p0 = 3 → P_M_spelt 8 15 12 5 0 (fun (r9 : Int64) => post r9)))))))))
set_option maxHeartbeats 4000000 in
set_option maxRecDepth 100000 in
theorem c_M_kindName (l : Launch) (dC : Nat → ClassId) (dI : Nat → Nat → Nat) (ad : Nat → Nat → Nat)   (sz : Nat) (p0 : Int32) (post : Int64 → Prop) (h : P_M_kindName p0 post) : zMl l yM_kindName wsM_kindName { frames := 1, cells := 0, slots := 0, locals := 26 } (dC, dI) ad [.int p0] (w_M_kindName ad ) [] sz (fun (r : Int64) (u : Unit) => post r) (fun (u : Unit) => (w_M_kindName ad )) 0 0 := by
  refine Met.ofW (cc := cM_kindName) (maxL := 1) (ret := (some .long)) (by decide +kernel) rfl ?_
  intro p e s m args below meth c s₁ B hml hv
  obtain ⟨rfl, hsz, hP, hK, hD0, hE⟩ := hv
  have hx := B.exec
  have hb := B.bytes
  have hr := B.returns
  have hts0 := atoms_spec (ws := wsM_kindName) B.pre
  have hts := fun w h => hts0 w (List.mem_cons_of_mem _ h)
  have hown : s.vm.findClass RM = some m.cls := findClass_of_methodNamed B.named
  have hlocks := B.notSynchronized
  subst hsz
  have hD := hD0.self (sz := s.heap.size)
  generalize hAe : va_A (w_M_kindName ad ) s.heap.size = A at hD hE ⊢
  have hA : ∀ q : Nat, s.heap.size ≤ q → A q := fun q h => by rw [← hAe]; exact Or.inr h
  have C0 := zC.mk hx hb hr hml hown hts hlocks hA
  have hS : va_S A s.heap s.heap [] := va_S.rf
  have hl := lv_entry ([.int p0]) (n := 1) (Nat.le_of_ble_eq_true rfl)
  rw [lg_entry_eq]
  generalize (lg_sl ([.int p0]) ++ List.replicate (1 - (lg_sl ([.int p0])).length) Slot.unset).toArray = ls at hl ⊢
  have hl : lv_has ls 1 [(0, .int p0)] := hl
  unfold P_M_kindName at h
  refine lv_iload_n hx hb dM_kindName_0 rfl (lv_at hl 0 rfl) ?_
  by_cases c1 : p0 = 0
  · replace h := h.1 c1
    refine lv_tableIn (tgt := 32) hx hb dM_kindName_1 (by rw [c1]; decide) (by rw [c1]; decide) (by rw [c1]; rfl) (by decide) ?_
    refine lv_iconst (v := 3) hx hb dM_kindName_32 (by decide) ?_
    refine lv_bipush (v := 8) hx hb dM_kindName_33 (by decide) ?_
    refine lv_bipush (v := 9) hx hb dM_kindName_35 (by decide) ?_
    refine lv_bipush (v := 16) hx hb dM_kindName_37 (by decide) ?_
    refine lv_iconst (v := 0) hx hb dM_kindName_39 (by decide) ?_
    refine zcall_l hP hD hS hA [] [] (va_runS (As := [.int 3, .int 8, .int 9, .int 16, .int 0]) (rest := []) ⟨hx, hb, hml, hown, hts⟩ (c_M_spelt l dC dI ad _ 3 8 9 16 0 _ h) ⟨callB_of 5 hts (zgood zc_M_spelt) rfl rfl rfl (hts _ zw_107) (hts _ zw_1158) (by decide +kernel) ⟨Nat.le_of_ble_eq_true rfl, Nat.le_of_ble_eq_true rfl⟩, (hts _ zw_1159)⟩ (zpreS hE hK hP hD hS hA [] [] (by rfl) (by rfl) (by decide)) rfl rfl hl.1 rfl (lv_room (Nat.le_of_ble_eq_true rfl)) dM_kindName_40 ⟨Nat.le_of_ble_eq_true rfl, Nat.le_of_ble_eq_true rfl⟩) (by rfl) (by rfl) (by decide) (by decide) (fun r2 u H locs h hP hD hS => ?_)
    try dsimp only at h
    have hP := hP.sub (ws' := (w_M_kindName ad )) [] rfl
    have hD := hD.sub (ws' := (w_M_kindName ad )) [] (by decide) rfl
    exact W.lret (v := r2) hx hb hr (fun t ht hW => ⟨⟨r2, (()), rfl, h, by rw [ht]; exact hP, hD⟩, hS.F ht⟩) hS.2.2 dM_kindName_43
  · replace h := h.2 c1
    by_cases c3 : p0 = 1
    · replace h := h.1 c3
      refine lv_tableIn (tgt := 44) hx hb dM_kindName_1 (by rw [c3]; decide) (by rw [c3]; decide) (by rw [c3]; rfl) (by decide) ?_
      refine lv_bipush (v := 23) hx hb dM_kindName_44 (by decide) ?_
      refine lv_bipush (v := 9) hx hb dM_kindName_46 (by decide) ?_
      refine lv_bipush (v := 14) hx hb dM_kindName_48 (by decide) ?_
      refine lv_bipush (v := 7) hx hb dM_kindName_50 (by decide) ?_
      refine lv_iconst (v := 0) hx hb dM_kindName_52 (by decide) ?_
      refine zcall_l hP hD hS hA [] [] (va_runS (As := [.int 23, .int 9, .int 14, .int 7, .int 0]) (rest := []) ⟨hx, hb, hml, hown, hts⟩ (c_M_spelt l dC dI ad _ 23 9 14 7 0 _ h) ⟨callB_of 5 hts (zgood zc_M_spelt) rfl rfl rfl (hts _ zw_107) (hts _ zw_1158) (by decide +kernel) ⟨Nat.le_of_ble_eq_true rfl, Nat.le_of_ble_eq_true rfl⟩, (hts _ zw_1159)⟩ (zpreS hE hK hP hD hS hA [] [] (by rfl) (by rfl) (by decide)) rfl rfl hl.1 rfl (lv_room (Nat.le_of_ble_eq_true rfl)) dM_kindName_53 ⟨Nat.le_of_ble_eq_true rfl, Nat.le_of_ble_eq_true rfl⟩) (by rfl) (by rfl) (by decide) (by decide) (fun r4 u H locs h hP hD hS => ?_)
      try dsimp only at h
      have hP := hP.sub (ws' := (w_M_kindName ad )) [] rfl
      have hD := hD.sub (ws' := (w_M_kindName ad )) [] (by decide) rfl
      exact W.lret (v := r4) hx hb hr (fun t ht hW => ⟨⟨r4, (()), rfl, h, by rw [ht]; exact hP, hD⟩, hS.F ht⟩) hS.2.2 dM_kindName_56
    · replace h := h.2 c3
      by_cases c5 : p0 = 2
      · replace h := h.1 c5
        refine lv_tableIn (tgt := 57) hx hb dM_kindName_1 (by rw [c5]; decide) (by rw [c5]; decide) (by rw [c5]; rfl) (by decide) ?_
        refine lv_bipush (v := 12) hx hb dM_kindName_57 (by decide) ?_
        refine lv_iconst (v := 5) hx hb dM_kindName_59 (by decide) ?_
        refine lv_bipush (v := 19) hx hb dM_kindName_60 (by decide) ?_
        refine lv_bipush (v := 19) hx hb dM_kindName_62 (by decide) ?_
        refine lv_iconst (v := 0) hx hb dM_kindName_64 (by decide) ?_
        refine zcall_l hP hD hS hA [] [] (va_runS (As := [.int 12, .int 5, .int 19, .int 19, .int 0]) (rest := []) ⟨hx, hb, hml, hown, hts⟩ (c_M_spelt l dC dI ad _ 12 5 19 19 0 _ h) ⟨callB_of 5 hts (zgood zc_M_spelt) rfl rfl rfl (hts _ zw_107) (hts _ zw_1158) (by decide +kernel) ⟨Nat.le_of_ble_eq_true rfl, Nat.le_of_ble_eq_true rfl⟩, (hts _ zw_1159)⟩ (zpreS hE hK hP hD hS hA [] [] (by rfl) (by rfl) (by decide)) rfl rfl hl.1 rfl (lv_room (Nat.le_of_ble_eq_true rfl)) dM_kindName_65 ⟨Nat.le_of_ble_eq_true rfl, Nat.le_of_ble_eq_true rfl⟩) (by rfl) (by rfl) (by decide) (by decide) (fun r6 u H locs h hP hD hS => ?_)
        try dsimp only at h
        have hP := hP.sub (ws' := (w_M_kindName ad )) [] rfl
        have hD := hD.sub (ws' := (w_M_kindName ad )) [] (by decide) rfl
        exact W.lret (v := r6) hx hb hr (fun t ht hW => ⟨⟨r6, (()), rfl, h, by rw [ht]; exact hP, hD⟩, hS.F ht⟩) hS.2.2 dM_kindName_68
      · replace h := h.2 c5
        by_cases c7 : p0 = 3
        · replace h := h.1 c7
          refine lv_tableIn (tgt := 69) hx hb dM_kindName_1 (by rw [c7]; decide) (by rw [c7]; decide) (by rw [c7]; rfl) (by decide) ?_
          refine lv_iconst (v := 2) hx hb dM_kindName_69 (by decide) ?_
          refine lv_iconst (v := 1) hx hb dM_kindName_70 (by decide) ?_
          refine lv_bipush (v := 12) hx hb dM_kindName_71 (by decide) ?_
          refine lv_bipush (v := 12) hx hb dM_kindName_73 (by decide) ?_
          refine lv_iconst (v := 0) hx hb dM_kindName_75 (by decide) ?_
          refine zcall_l hP hD hS hA [] [] (va_runS (As := [.int 2, .int 1, .int 12, .int 12, .int 0]) (rest := []) ⟨hx, hb, hml, hown, hts⟩ (c_M_spelt l dC dI ad _ 2 1 12 12 0 _ h) ⟨callB_of 5 hts (zgood zc_M_spelt) rfl rfl rfl (hts _ zw_107) (hts _ zw_1158) (by decide +kernel) ⟨Nat.le_of_ble_eq_true rfl, Nat.le_of_ble_eq_true rfl⟩, (hts _ zw_1159)⟩ (zpreS hE hK hP hD hS hA [] [] (by rfl) (by rfl) (by decide)) rfl rfl hl.1 rfl (lv_room (Nat.le_of_ble_eq_true rfl)) dM_kindName_76 ⟨Nat.le_of_ble_eq_true rfl, Nat.le_of_ble_eq_true rfl⟩) (by rfl) (by rfl) (by decide) (by decide) (fun r8 u H locs h hP hD hS => ?_)
          try dsimp only at h
          have hP := hP.sub (ws' := (w_M_kindName ad )) [] rfl
          have hD := hD.sub (ws' := (w_M_kindName ad )) [] (by decide) rfl
          exact W.lret (v := r8) hx hb hr (fun t ht hW => ⟨⟨r8, (()), rfl, h, by rw [ht]; exact hP, hD⟩, hS.F ht⟩) hS.2.2 dM_kindName_79
        · replace h := h.2 c7
          refine lv_tableOut (tgt := 80) hx hb dM_kindName_1 (zz_out0_3 (by assumption) (by assumption) (by assumption) (by assumption)) (by decide) ?_
          refine lv_bipush (v := 8) hx hb dM_kindName_80 (by decide) ?_
          refine lv_bipush (v := 15) hx hb dM_kindName_82 (by decide) ?_
          refine lv_bipush (v := 12) hx hb dM_kindName_84 (by decide) ?_
          refine lv_iconst (v := 5) hx hb dM_kindName_86 (by decide) ?_
          refine lv_iconst (v := 0) hx hb dM_kindName_87 (by decide) ?_
          refine zcall_l hP hD hS hA [] [] (va_runS (As := [.int 8, .int 15, .int 12, .int 5, .int 0]) (rest := []) ⟨hx, hb, hml, hown, hts⟩ (c_M_spelt l dC dI ad _ 8 15 12 5 0 _ h) ⟨callB_of 5 hts (zgood zc_M_spelt) rfl rfl rfl (hts _ zw_107) (hts _ zw_1158) (by decide +kernel) ⟨Nat.le_of_ble_eq_true rfl, Nat.le_of_ble_eq_true rfl⟩, (hts _ zw_1159)⟩ (zpreS hE hK hP hD hS hA [] [] (by rfl) (by rfl) (by decide)) rfl rfl hl.1 rfl (lv_room (Nat.le_of_ble_eq_true rfl)) dM_kindName_88 ⟨Nat.le_of_ble_eq_true rfl, Nat.le_of_ble_eq_true rfl⟩) (by rfl) (by rfl) (by decide) (by decide) (fun r9 u H locs h hP hD hS => ?_)
          try dsimp only at h
          have hP := hP.sub (ws' := (w_M_kindName ad )) [] rfl
          have hD := hD.sub (ws' := (w_M_kindName ad )) [] (by decide) rfl
          exact W.lret (v := r9) hx hb hr (fun t ht hW => ⟨⟨r9, (()), rfl, h, by rw [ht]; exact hP, hD⟩, hS.F ht⟩) hS.2.2 dM_kindName_91
abbrev yM_keyName : MethodName := ⟨"FootprintRulesModel", "keyName", "(I)J"⟩
abbrev cM_keyName : ByteArray := prog_14_method_9_code
abbrev wsM_keyName : List Cond := .code yM_keyName cM_keyName 1 (some .long) :: zT
set_option maxRecDepth 100000 in
theorem zc_M_keyName : Cond.code yM_keyName cM_keyName 1 (some .long) ∈ zT := zm 1163 (by rfl) (by rfl)
theorem dM_keyName_0 : decode cM_keyName 0 = .ok (.iload_n 0, 1) := by decide +kernel
theorem dM_keyName_1 : decode cM_keyName 1 = .ok (.tableswitch 172 0 9 #[55, 66, 77, 88, 101, 114, 126, 138, 149, 161], 55) := by decide +kernel
theorem dM_keyName_56 : decode cM_keyName 56 = .ok (.bipush 20, 2) := by decide +kernel
theorem dM_keyName_58 : decode cM_keyName 58 = .ok (.bipush 15, 2) := by decide +kernel
theorem dM_keyName_60 : decode cM_keyName 60 = .ok (.iconst 5, 1) := by decide +kernel
theorem dM_keyName_61 : decode cM_keyName 61 = .ok (.iconst 0, 1) := by decide +kernel
theorem dM_keyName_62 : decode cM_keyName 62 = .ok (.iconst 0, 1) := by decide +kernel
theorem dM_keyName_63 : decode cM_keyName 63 = .ok (.invokestatic 78, 3) := by decide +kernel
theorem dM_keyName_66 : decode cM_keyName 66 = .ok (.lreturn, 1) := by decide +kernel
theorem dM_keyName_67 : decode cM_keyName 67 = .ok (.bipush 8, 2) := by decide +kernel
theorem dM_keyName_69 : decode cM_keyName 69 = .ok (.iconst 5, 1) := by decide +kernel
theorem dM_keyName_70 : decode cM_keyName 70 = .ok (.iconst 5, 1) := by decide +kernel
theorem dM_keyName_71 : decode cM_keyName 71 = .ok (.bipush 12, 2) := by decide +kernel
theorem dM_keyName_73 : decode cM_keyName 73 = .ok (.iconst 0, 1) := by decide +kernel
theorem dM_keyName_74 : decode cM_keyName 74 = .ok (.invokestatic 78, 3) := by decide +kernel
theorem dM_keyName_77 : decode cM_keyName 77 = .ok (.lreturn, 1) := by decide +kernel
theorem dM_keyName_78 : decode cM_keyName 78 = .ok (.bipush 19, 2) := by decide +kernel
theorem dM_keyName_80 : decode cM_keyName 80 = .ok (.bipush 9, 2) := by decide +kernel
theorem dM_keyName_82 : decode cM_keyName 82 = .ok (.iconst 4, 1) := by decide +kernel
theorem dM_keyName_83 : decode cM_keyName 83 = .ok (.iconst 5, 1) := by decide +kernel
theorem dM_keyName_84 : decode cM_keyName 84 = .ok (.iconst 0, 1) := by decide +kernel
theorem dM_keyName_85 : decode cM_keyName 85 = .ok (.invokestatic 78, 3) := by decide +kernel
theorem dM_keyName_88 : decode cM_keyName 88 = .ok (.lreturn, 1) := by decide +kernel
theorem dM_keyName_89 : decode cM_keyName 89 = .ok (.iconst 3, 1) := by decide +kernel
theorem dM_keyName_90 : decode cM_keyName 90 = .ok (.bipush 15, 2) := by decide +kernel
theorem dM_keyName_92 : decode cM_keyName 92 = .ok (.bipush 21, 2) := by decide +kernel
theorem dM_keyName_94 : decode cM_keyName 94 = .ok (.bipush 18, 2) := by decide +kernel
theorem dM_keyName_96 : decode cM_keyName 96 = .ok (.bipush 20, 2) := by decide +kernel
theorem dM_keyName_98 : decode cM_keyName 98 = .ok (.invokestatic 78, 3) := by decide +kernel
theorem dM_keyName_101 : decode cM_keyName 101 = .ok (.lreturn, 1) := by decide +kernel
theorem dM_keyName_102 : decode cM_keyName 102 = .ok (.bipush 18, 2) := by decide +kernel
theorem dM_keyName_104 : decode cM_keyName 104 = .ok (.bipush 15, 2) := by decide +kernel
theorem dM_keyName_106 : decode cM_keyName 106 = .ok (.bipush 21, 2) := by decide +kernel
theorem dM_keyName_108 : decode cM_keyName 108 = .ok (.bipush 14, 2) := by decide +kernel
theorem dM_keyName_110 : decode cM_keyName 110 = .ok (.iconst 4, 1) := by decide +kernel
theorem dM_keyName_111 : decode cM_keyName 111 = .ok (.invokestatic 78, 3) := by decide +kernel
theorem dM_keyName_114 : decode cM_keyName 114 = .ok (.lreturn, 1) := by decide +kernel
theorem dM_keyName_115 : decode cM_keyName 115 = .ok (.bipush 13, 2) := by decide +kernel
theorem dM_keyName_117 : decode cM_keyName 117 = .ok (.iconst 1, 1) := by decide +kernel
theorem dM_keyName_118 : decode cM_keyName 118 = .ok (.bipush 19, 2) := by decide +kernel
theorem dM_keyName_120 : decode cM_keyName 120 = .ok (.bipush 11, 2) := by decide +kernel
theorem dM_keyName_122 : decode cM_keyName 122 = .ok (.iconst 0, 1) := by decide +kernel
theorem dM_keyName_123 : decode cM_keyName 123 = .ok (.invokestatic 78, 3) := by decide +kernel
theorem dM_keyName_126 : decode cM_keyName 126 = .ok (.lreturn, 1) := by decide +kernel
theorem dM_keyName_127 : decode cM_keyName 127 = .ok (.bipush 16, 2) := by decide +kernel
theorem dM_keyName_129 : decode cM_keyName 129 = .ok (.iconst 1, 1) := by decide +kernel
theorem dM_keyName_130 : decode cM_keyName 130 = .ok (.bipush 19, 2) := by decide +kernel
theorem dM_keyName_132 : decode cM_keyName 132 = .ok (.bipush 20, 2) := by decide +kernel
theorem dM_keyName_134 : decode cM_keyName 134 = .ok (.iconst 5, 1) := by decide +kernel
theorem dM_keyName_135 : decode cM_keyName 135 = .ok (.invokestatic 78, 3) := by decide +kernel
theorem dM_keyName_138 : decode cM_keyName 138 = .ok (.lreturn, 1) := by decide +kernel
theorem dM_keyName_139 : decode cM_keyName 139 = .ok (.bipush 7, 2) := by decide +kernel
theorem dM_keyName_141 : decode cM_keyName 141 = .ok (.iconst 1, 1) := by decide +kernel
theorem dM_keyName_142 : decode cM_keyName 142 = .ok (.bipush 16, 2) := by decide +kernel
theorem dM_keyName_144 : decode cM_keyName 144 = .ok (.iconst 0, 1) := by decide +kernel
theorem dM_keyName_145 : decode cM_keyName 145 = .ok (.iconst 0, 1) := by decide +kernel
theorem dM_keyName_146 : decode cM_keyName 146 = .ok (.invokestatic 78, 3) := by decide +kernel
theorem dM_keyName_149 : decode cM_keyName 149 = .ok (.lreturn, 1) := by decide +kernel
theorem dM_keyName_150 : decode cM_keyName 150 = .ok (.bipush 16, 2) := by decide +kernel
theorem dM_keyName_152 : decode cM_keyName 152 = .ok (.iconst 1, 1) := by decide +kernel
theorem dM_keyName_153 : decode cM_keyName 153 = .ok (.bipush 18, 2) := by decide +kernel
theorem dM_keyName_155 : decode cM_keyName 155 = .ok (.bipush 20, 2) := by decide +kernel
theorem dM_keyName_157 : decode cM_keyName 157 = .ok (.iconst 0, 1) := by decide +kernel
theorem dM_keyName_158 : decode cM_keyName 158 = .ok (.invokestatic 78, 3) := by decide +kernel
theorem dM_keyName_161 : decode cM_keyName 161 = .ok (.lreturn, 1) := by decide +kernel
theorem dM_keyName_162 : decode cM_keyName 162 = .ok (.bipush 22, 2) := by decide +kernel
theorem dM_keyName_164 : decode cM_keyName 164 = .ok (.bipush 9, 2) := by decide +kernel
theorem dM_keyName_166 : decode cM_keyName 166 = .ok (.iconst 1, 1) := by decide +kernel
theorem dM_keyName_167 : decode cM_keyName 167 = .ok (.iconst 0, 1) := by decide +kernel
theorem dM_keyName_168 : decode cM_keyName 168 = .ok (.iconst 0, 1) := by decide +kernel
theorem dM_keyName_169 : decode cM_keyName 169 = .ok (.invokestatic 78, 3) := by decide +kernel
theorem dM_keyName_172 : decode cM_keyName 172 = .ok (.lreturn, 1) := by decide +kernel
theorem dM_keyName_173 : decode cM_keyName 173 = .ok (.bipush 14, 2) := by decide +kernel
theorem dM_keyName_175 : decode cM_keyName 175 = .ok (.iconst 1, 1) := by decide +kernel
theorem dM_keyName_176 : decode cM_keyName 176 = .ok (.bipush 13, 2) := by decide +kernel
theorem dM_keyName_178 : decode cM_keyName 178 = .ok (.iconst 5, 1) := by decide +kernel
theorem dM_keyName_179 : decode cM_keyName 179 = .ok (.iconst 0, 1) := by decide +kernel
theorem dM_keyName_180 : decode cM_keyName 180 = .ok (.invokestatic 78, 3) := by decide +kernel
theorem dM_keyName_183 : decode cM_keyName 183 = .ok (.lreturn, 1) := by decide +kernel
-- FootprintRulesModel.keyName(I)J
abbrev w_M_keyName (ad : Nat → Nat → Nat)    : va_W := []
def P_M_keyName (p0 : Int32) (post : Int64 → Prop) : Prop := ((p0 = 0 → P_M_spelt 20 15 5 0 0 (fun (r2 : Int64) => post r2)) ∧ (¬ p0 = 0 → ((p0 = 1 → P_M_spelt 8 5 5 12 0 (fun (r4 : Int64) => post r4)) ∧ (¬ p0 = 1 → ((p0 = 2 → P_M_spelt 19 9 4 5 0 (fun (r6 : Int64) => post r6)) ∧ (¬ p0 = 2 → ((p0 = 3 → P_M_spelt 3 15 21 18 20 (fun (r8 : Int64) => post r8)) ∧ (¬ p0 = 3 → ((p0 = 4 → P_M_spelt 18 15 21 14 4 (fun (r10 : Int64) => post r10)) ∧ (¬ p0 = 4 → ((p0 = 5 → P_M_spelt 13 1 19 11 0 (fun (r12 : Int64) => post r12)) ∧ (¬ p0 = 5 → ((p0 = 6 → P_M_spelt 16 1 19 20 5 (fun (r14 : Int64) => post r14)) ∧ (¬ p0 = 6 → ((p0 = 7 → P_M_spelt 7 1 16 0 0 (fun (r16 : Int64) => post r16)) ∧ (¬ p0 = 7 → ((p0 = 8 → P_M_spelt 16 1 18 20 0 (fun (r18 : Int64) => post r18)) ∧ (¬ p0 = 8 → ((p0 = 9 → P_M_spelt 22 9 1 0 0 (fun (r20 : Int64) => post r20)) ∧ (¬ p0 = 9 → P_M_spelt 14 1 13 5 0 (fun (r21 : Int64) => post r21)))))))))))))))))))))
set_option maxHeartbeats 4000000 in
set_option maxRecDepth 100000 in
theorem c_M_keyName (l : Launch) (dC : Nat → ClassId) (dI : Nat → Nat → Nat) (ad : Nat → Nat → Nat)   (sz : Nat) (p0 : Int32) (post : Int64 → Prop) (h : P_M_keyName p0 post) : zMl l yM_keyName wsM_keyName { frames := 1, cells := 0, slots := 0, locals := 26 } (dC, dI) ad [.int p0] (w_M_keyName ad ) [] sz (fun (r : Int64) (u : Unit) => post r) (fun (u : Unit) => (w_M_keyName ad )) 0 0 := by
  refine Met.ofW (cc := cM_keyName) (maxL := 1) (ret := (some .long)) (by decide +kernel) rfl ?_
  intro p e s m args below meth c s₁ B hml hv
  obtain ⟨rfl, hsz, hP, hK, hD0, hE⟩ := hv
  have hx := B.exec
  have hb := B.bytes
  have hr := B.returns
  have hts0 := atoms_spec (ws := wsM_keyName) B.pre
  have hts := fun w h => hts0 w (List.mem_cons_of_mem _ h)
  have hown : s.vm.findClass RM = some m.cls := findClass_of_methodNamed B.named
  have hlocks := B.notSynchronized
  subst hsz
  have hD := hD0.self (sz := s.heap.size)
  generalize hAe : va_A (w_M_keyName ad ) s.heap.size = A at hD hE ⊢
  have hA : ∀ q : Nat, s.heap.size ≤ q → A q := fun q h => by rw [← hAe]; exact Or.inr h
  have C0 := zC.mk hx hb hr hml hown hts hlocks hA
  have hS : va_S A s.heap s.heap [] := va_S.rf
  have hl := lv_entry ([.int p0]) (n := 1) (Nat.le_of_ble_eq_true rfl)
  rw [lg_entry_eq]
  generalize (lg_sl ([.int p0]) ++ List.replicate (1 - (lg_sl ([.int p0])).length) Slot.unset).toArray = ls at hl ⊢
  have hl : lv_has ls 1 [(0, .int p0)] := hl
  unfold P_M_keyName at h
  refine lv_iload_n hx hb dM_keyName_0 rfl (lv_at hl 0 rfl) ?_
  by_cases c1 : p0 = 0
  · replace h := h.1 c1
    refine lv_tableIn (tgt := 56) hx hb dM_keyName_1 (by rw [c1]; decide) (by rw [c1]; decide) (by rw [c1]; rfl) (by decide) ?_
    refine lv_bipush (v := 20) hx hb dM_keyName_56 (by decide) ?_
    refine lv_bipush (v := 15) hx hb dM_keyName_58 (by decide) ?_
    refine lv_iconst (v := 5) hx hb dM_keyName_60 (by decide) ?_
    refine lv_iconst (v := 0) hx hb dM_keyName_61 (by decide) ?_
    refine lv_iconst (v := 0) hx hb dM_keyName_62 (by decide) ?_
    refine zcall_l hP hD hS hA [] [] (va_runS (As := [.int 20, .int 15, .int 5, .int 0, .int 0]) (rest := []) ⟨hx, hb, hml, hown, hts⟩ (c_M_spelt l dC dI ad _ 20 15 5 0 0 _ h) ⟨callB_of 5 hts (zgood zc_M_spelt) rfl rfl rfl (hts _ zw_107) (hts _ zw_1158) (by decide +kernel) ⟨Nat.le_of_ble_eq_true rfl, Nat.le_of_ble_eq_true rfl⟩, (hts _ zw_1159)⟩ (zpreS hE hK hP hD hS hA [] [] (by rfl) (by rfl) (by decide)) rfl rfl hl.1 rfl (lv_room (Nat.le_of_ble_eq_true rfl)) dM_keyName_63 ⟨Nat.le_of_ble_eq_true rfl, Nat.le_of_ble_eq_true rfl⟩) (by rfl) (by rfl) (by decide) (by decide) (fun r2 u H locs h hP hD hS => ?_)
    try dsimp only at h
    have hP := hP.sub (ws' := (w_M_keyName ad )) [] rfl
    have hD := hD.sub (ws' := (w_M_keyName ad )) [] (by decide) rfl
    exact W.lret (v := r2) hx hb hr (fun t ht hW => ⟨⟨r2, (()), rfl, h, by rw [ht]; exact hP, hD⟩, hS.F ht⟩) hS.2.2 dM_keyName_66
  · replace h := h.2 c1
    by_cases c3 : p0 = 1
    · replace h := h.1 c3
      refine lv_tableIn (tgt := 67) hx hb dM_keyName_1 (by rw [c3]; decide) (by rw [c3]; decide) (by rw [c3]; rfl) (by decide) ?_
      refine lv_bipush (v := 8) hx hb dM_keyName_67 (by decide) ?_
      refine lv_iconst (v := 5) hx hb dM_keyName_69 (by decide) ?_
      refine lv_iconst (v := 5) hx hb dM_keyName_70 (by decide) ?_
      refine lv_bipush (v := 12) hx hb dM_keyName_71 (by decide) ?_
      refine lv_iconst (v := 0) hx hb dM_keyName_73 (by decide) ?_
      refine zcall_l hP hD hS hA [] [] (va_runS (As := [.int 8, .int 5, .int 5, .int 12, .int 0]) (rest := []) ⟨hx, hb, hml, hown, hts⟩ (c_M_spelt l dC dI ad _ 8 5 5 12 0 _ h) ⟨callB_of 5 hts (zgood zc_M_spelt) rfl rfl rfl (hts _ zw_107) (hts _ zw_1158) (by decide +kernel) ⟨Nat.le_of_ble_eq_true rfl, Nat.le_of_ble_eq_true rfl⟩, (hts _ zw_1159)⟩ (zpreS hE hK hP hD hS hA [] [] (by rfl) (by rfl) (by decide)) rfl rfl hl.1 rfl (lv_room (Nat.le_of_ble_eq_true rfl)) dM_keyName_74 ⟨Nat.le_of_ble_eq_true rfl, Nat.le_of_ble_eq_true rfl⟩) (by rfl) (by rfl) (by decide) (by decide) (fun r4 u H locs h hP hD hS => ?_)
      try dsimp only at h
      have hP := hP.sub (ws' := (w_M_keyName ad )) [] rfl
      have hD := hD.sub (ws' := (w_M_keyName ad )) [] (by decide) rfl
      exact W.lret (v := r4) hx hb hr (fun t ht hW => ⟨⟨r4, (()), rfl, h, by rw [ht]; exact hP, hD⟩, hS.F ht⟩) hS.2.2 dM_keyName_77
    · replace h := h.2 c3
      by_cases c5 : p0 = 2
      · replace h := h.1 c5
        refine lv_tableIn (tgt := 78) hx hb dM_keyName_1 (by rw [c5]; decide) (by rw [c5]; decide) (by rw [c5]; rfl) (by decide) ?_
        refine lv_bipush (v := 19) hx hb dM_keyName_78 (by decide) ?_
        refine lv_bipush (v := 9) hx hb dM_keyName_80 (by decide) ?_
        refine lv_iconst (v := 4) hx hb dM_keyName_82 (by decide) ?_
        refine lv_iconst (v := 5) hx hb dM_keyName_83 (by decide) ?_
        refine lv_iconst (v := 0) hx hb dM_keyName_84 (by decide) ?_
        refine zcall_l hP hD hS hA [] [] (va_runS (As := [.int 19, .int 9, .int 4, .int 5, .int 0]) (rest := []) ⟨hx, hb, hml, hown, hts⟩ (c_M_spelt l dC dI ad _ 19 9 4 5 0 _ h) ⟨callB_of 5 hts (zgood zc_M_spelt) rfl rfl rfl (hts _ zw_107) (hts _ zw_1158) (by decide +kernel) ⟨Nat.le_of_ble_eq_true rfl, Nat.le_of_ble_eq_true rfl⟩, (hts _ zw_1159)⟩ (zpreS hE hK hP hD hS hA [] [] (by rfl) (by rfl) (by decide)) rfl rfl hl.1 rfl (lv_room (Nat.le_of_ble_eq_true rfl)) dM_keyName_85 ⟨Nat.le_of_ble_eq_true rfl, Nat.le_of_ble_eq_true rfl⟩) (by rfl) (by rfl) (by decide) (by decide) (fun r6 u H locs h hP hD hS => ?_)
        try dsimp only at h
        have hP := hP.sub (ws' := (w_M_keyName ad )) [] rfl
        have hD := hD.sub (ws' := (w_M_keyName ad )) [] (by decide) rfl
        exact W.lret (v := r6) hx hb hr (fun t ht hW => ⟨⟨r6, (()), rfl, h, by rw [ht]; exact hP, hD⟩, hS.F ht⟩) hS.2.2 dM_keyName_88
      · replace h := h.2 c5
        by_cases c7 : p0 = 3
        · replace h := h.1 c7
          refine lv_tableIn (tgt := 89) hx hb dM_keyName_1 (by rw [c7]; decide) (by rw [c7]; decide) (by rw [c7]; rfl) (by decide) ?_
          refine lv_iconst (v := 3) hx hb dM_keyName_89 (by decide) ?_
          refine lv_bipush (v := 15) hx hb dM_keyName_90 (by decide) ?_
          refine lv_bipush (v := 21) hx hb dM_keyName_92 (by decide) ?_
          refine lv_bipush (v := 18) hx hb dM_keyName_94 (by decide) ?_
          refine lv_bipush (v := 20) hx hb dM_keyName_96 (by decide) ?_
          refine zcall_l hP hD hS hA [] [] (va_runS (As := [.int 3, .int 15, .int 21, .int 18, .int 20]) (rest := []) ⟨hx, hb, hml, hown, hts⟩ (c_M_spelt l dC dI ad _ 3 15 21 18 20 _ h) ⟨callB_of 5 hts (zgood zc_M_spelt) rfl rfl rfl (hts _ zw_107) (hts _ zw_1158) (by decide +kernel) ⟨Nat.le_of_ble_eq_true rfl, Nat.le_of_ble_eq_true rfl⟩, (hts _ zw_1159)⟩ (zpreS hE hK hP hD hS hA [] [] (by rfl) (by rfl) (by decide)) rfl rfl hl.1 rfl (lv_room (Nat.le_of_ble_eq_true rfl)) dM_keyName_98 ⟨Nat.le_of_ble_eq_true rfl, Nat.le_of_ble_eq_true rfl⟩) (by rfl) (by rfl) (by decide) (by decide) (fun r8 u H locs h hP hD hS => ?_)
          try dsimp only at h
          have hP := hP.sub (ws' := (w_M_keyName ad )) [] rfl
          have hD := hD.sub (ws' := (w_M_keyName ad )) [] (by decide) rfl
          exact W.lret (v := r8) hx hb hr (fun t ht hW => ⟨⟨r8, (()), rfl, h, by rw [ht]; exact hP, hD⟩, hS.F ht⟩) hS.2.2 dM_keyName_101
        · replace h := h.2 c7
          by_cases c9 : p0 = 4
          · replace h := h.1 c9
            refine lv_tableIn (tgt := 102) hx hb dM_keyName_1 (by rw [c9]; decide) (by rw [c9]; decide) (by rw [c9]; rfl) (by decide) ?_
            refine lv_bipush (v := 18) hx hb dM_keyName_102 (by decide) ?_
            refine lv_bipush (v := 15) hx hb dM_keyName_104 (by decide) ?_
            refine lv_bipush (v := 21) hx hb dM_keyName_106 (by decide) ?_
            refine lv_bipush (v := 14) hx hb dM_keyName_108 (by decide) ?_
            refine lv_iconst (v := 4) hx hb dM_keyName_110 (by decide) ?_
            refine zcall_l hP hD hS hA [] [] (va_runS (As := [.int 18, .int 15, .int 21, .int 14, .int 4]) (rest := []) ⟨hx, hb, hml, hown, hts⟩ (c_M_spelt l dC dI ad _ 18 15 21 14 4 _ h) ⟨callB_of 5 hts (zgood zc_M_spelt) rfl rfl rfl (hts _ zw_107) (hts _ zw_1158) (by decide +kernel) ⟨Nat.le_of_ble_eq_true rfl, Nat.le_of_ble_eq_true rfl⟩, (hts _ zw_1159)⟩ (zpreS hE hK hP hD hS hA [] [] (by rfl) (by rfl) (by decide)) rfl rfl hl.1 rfl (lv_room (Nat.le_of_ble_eq_true rfl)) dM_keyName_111 ⟨Nat.le_of_ble_eq_true rfl, Nat.le_of_ble_eq_true rfl⟩) (by rfl) (by rfl) (by decide) (by decide) (fun r10 u H locs h hP hD hS => ?_)
            try dsimp only at h
            have hP := hP.sub (ws' := (w_M_keyName ad )) [] rfl
            have hD := hD.sub (ws' := (w_M_keyName ad )) [] (by decide) rfl
            exact W.lret (v := r10) hx hb hr (fun t ht hW => ⟨⟨r10, (()), rfl, h, by rw [ht]; exact hP, hD⟩, hS.F ht⟩) hS.2.2 dM_keyName_114
          · replace h := h.2 c9
            by_cases c11 : p0 = 5
            · replace h := h.1 c11
              refine lv_tableIn (tgt := 115) hx hb dM_keyName_1 (by rw [c11]; decide) (by rw [c11]; decide) (by rw [c11]; rfl) (by decide) ?_
              refine lv_bipush (v := 13) hx hb dM_keyName_115 (by decide) ?_
              refine lv_iconst (v := 1) hx hb dM_keyName_117 (by decide) ?_
              refine lv_bipush (v := 19) hx hb dM_keyName_118 (by decide) ?_
              refine lv_bipush (v := 11) hx hb dM_keyName_120 (by decide) ?_
              refine lv_iconst (v := 0) hx hb dM_keyName_122 (by decide) ?_
              refine zcall_l hP hD hS hA [] [] (va_runS (As := [.int 13, .int 1, .int 19, .int 11, .int 0]) (rest := []) ⟨hx, hb, hml, hown, hts⟩ (c_M_spelt l dC dI ad _ 13 1 19 11 0 _ h) ⟨callB_of 5 hts (zgood zc_M_spelt) rfl rfl rfl (hts _ zw_107) (hts _ zw_1158) (by decide +kernel) ⟨Nat.le_of_ble_eq_true rfl, Nat.le_of_ble_eq_true rfl⟩, (hts _ zw_1159)⟩ (zpreS hE hK hP hD hS hA [] [] (by rfl) (by rfl) (by decide)) rfl rfl hl.1 rfl (lv_room (Nat.le_of_ble_eq_true rfl)) dM_keyName_123 ⟨Nat.le_of_ble_eq_true rfl, Nat.le_of_ble_eq_true rfl⟩) (by rfl) (by rfl) (by decide) (by decide) (fun r12 u H locs h hP hD hS => ?_)
              try dsimp only at h
              have hP := hP.sub (ws' := (w_M_keyName ad )) [] rfl
              have hD := hD.sub (ws' := (w_M_keyName ad )) [] (by decide) rfl
              exact W.lret (v := r12) hx hb hr (fun t ht hW => ⟨⟨r12, (()), rfl, h, by rw [ht]; exact hP, hD⟩, hS.F ht⟩) hS.2.2 dM_keyName_126
            · replace h := h.2 c11
              by_cases c13 : p0 = 6
              · replace h := h.1 c13
                refine lv_tableIn (tgt := 127) hx hb dM_keyName_1 (by rw [c13]; decide) (by rw [c13]; decide) (by rw [c13]; rfl) (by decide) ?_
                refine lv_bipush (v := 16) hx hb dM_keyName_127 (by decide) ?_
                refine lv_iconst (v := 1) hx hb dM_keyName_129 (by decide) ?_
                refine lv_bipush (v := 19) hx hb dM_keyName_130 (by decide) ?_
                refine lv_bipush (v := 20) hx hb dM_keyName_132 (by decide) ?_
                refine lv_iconst (v := 5) hx hb dM_keyName_134 (by decide) ?_
                refine zcall_l hP hD hS hA [] [] (va_runS (As := [.int 16, .int 1, .int 19, .int 20, .int 5]) (rest := []) ⟨hx, hb, hml, hown, hts⟩ (c_M_spelt l dC dI ad _ 16 1 19 20 5 _ h) ⟨callB_of 5 hts (zgood zc_M_spelt) rfl rfl rfl (hts _ zw_107) (hts _ zw_1158) (by decide +kernel) ⟨Nat.le_of_ble_eq_true rfl, Nat.le_of_ble_eq_true rfl⟩, (hts _ zw_1159)⟩ (zpreS hE hK hP hD hS hA [] [] (by rfl) (by rfl) (by decide)) rfl rfl hl.1 rfl (lv_room (Nat.le_of_ble_eq_true rfl)) dM_keyName_135 ⟨Nat.le_of_ble_eq_true rfl, Nat.le_of_ble_eq_true rfl⟩) (by rfl) (by rfl) (by decide) (by decide) (fun r14 u H locs h hP hD hS => ?_)
                try dsimp only at h
                have hP := hP.sub (ws' := (w_M_keyName ad )) [] rfl
                have hD := hD.sub (ws' := (w_M_keyName ad )) [] (by decide) rfl
                exact W.lret (v := r14) hx hb hr (fun t ht hW => ⟨⟨r14, (()), rfl, h, by rw [ht]; exact hP, hD⟩, hS.F ht⟩) hS.2.2 dM_keyName_138
              · replace h := h.2 c13
                by_cases c15 : p0 = 7
                · replace h := h.1 c15
                  refine lv_tableIn (tgt := 139) hx hb dM_keyName_1 (by rw [c15]; decide) (by rw [c15]; decide) (by rw [c15]; rfl) (by decide) ?_
                  refine lv_bipush (v := 7) hx hb dM_keyName_139 (by decide) ?_
                  refine lv_iconst (v := 1) hx hb dM_keyName_141 (by decide) ?_
                  refine lv_bipush (v := 16) hx hb dM_keyName_142 (by decide) ?_
                  refine lv_iconst (v := 0) hx hb dM_keyName_144 (by decide) ?_
                  refine lv_iconst (v := 0) hx hb dM_keyName_145 (by decide) ?_
                  refine zcall_l hP hD hS hA [] [] (va_runS (As := [.int 7, .int 1, .int 16, .int 0, .int 0]) (rest := []) ⟨hx, hb, hml, hown, hts⟩ (c_M_spelt l dC dI ad _ 7 1 16 0 0 _ h) ⟨callB_of 5 hts (zgood zc_M_spelt) rfl rfl rfl (hts _ zw_107) (hts _ zw_1158) (by decide +kernel) ⟨Nat.le_of_ble_eq_true rfl, Nat.le_of_ble_eq_true rfl⟩, (hts _ zw_1159)⟩ (zpreS hE hK hP hD hS hA [] [] (by rfl) (by rfl) (by decide)) rfl rfl hl.1 rfl (lv_room (Nat.le_of_ble_eq_true rfl)) dM_keyName_146 ⟨Nat.le_of_ble_eq_true rfl, Nat.le_of_ble_eq_true rfl⟩) (by rfl) (by rfl) (by decide) (by decide) (fun r16 u H locs h hP hD hS => ?_)
                  try dsimp only at h
                  have hP := hP.sub (ws' := (w_M_keyName ad )) [] rfl
                  have hD := hD.sub (ws' := (w_M_keyName ad )) [] (by decide) rfl
                  exact W.lret (v := r16) hx hb hr (fun t ht hW => ⟨⟨r16, (()), rfl, h, by rw [ht]; exact hP, hD⟩, hS.F ht⟩) hS.2.2 dM_keyName_149
                · replace h := h.2 c15
                  by_cases c17 : p0 = 8
                  · replace h := h.1 c17
                    refine lv_tableIn (tgt := 150) hx hb dM_keyName_1 (by rw [c17]; decide) (by rw [c17]; decide) (by rw [c17]; rfl) (by decide) ?_
                    refine lv_bipush (v := 16) hx hb dM_keyName_150 (by decide) ?_
                    refine lv_iconst (v := 1) hx hb dM_keyName_152 (by decide) ?_
                    refine lv_bipush (v := 18) hx hb dM_keyName_153 (by decide) ?_
                    refine lv_bipush (v := 20) hx hb dM_keyName_155 (by decide) ?_
                    refine lv_iconst (v := 0) hx hb dM_keyName_157 (by decide) ?_
                    refine zcall_l hP hD hS hA [] [] (va_runS (As := [.int 16, .int 1, .int 18, .int 20, .int 0]) (rest := []) ⟨hx, hb, hml, hown, hts⟩ (c_M_spelt l dC dI ad _ 16 1 18 20 0 _ h) ⟨callB_of 5 hts (zgood zc_M_spelt) rfl rfl rfl (hts _ zw_107) (hts _ zw_1158) (by decide +kernel) ⟨Nat.le_of_ble_eq_true rfl, Nat.le_of_ble_eq_true rfl⟩, (hts _ zw_1159)⟩ (zpreS hE hK hP hD hS hA [] [] (by rfl) (by rfl) (by decide)) rfl rfl hl.1 rfl (lv_room (Nat.le_of_ble_eq_true rfl)) dM_keyName_158 ⟨Nat.le_of_ble_eq_true rfl, Nat.le_of_ble_eq_true rfl⟩) (by rfl) (by rfl) (by decide) (by decide) (fun r18 u H locs h hP hD hS => ?_)
                    try dsimp only at h
                    have hP := hP.sub (ws' := (w_M_keyName ad )) [] rfl
                    have hD := hD.sub (ws' := (w_M_keyName ad )) [] (by decide) rfl
                    exact W.lret (v := r18) hx hb hr (fun t ht hW => ⟨⟨r18, (()), rfl, h, by rw [ht]; exact hP, hD⟩, hS.F ht⟩) hS.2.2 dM_keyName_161
                  · replace h := h.2 c17
                    by_cases c19 : p0 = 9
                    · replace h := h.1 c19
                      refine lv_tableIn (tgt := 162) hx hb dM_keyName_1 (by rw [c19]; decide) (by rw [c19]; decide) (by rw [c19]; rfl) (by decide) ?_
                      refine lv_bipush (v := 22) hx hb dM_keyName_162 (by decide) ?_
                      refine lv_bipush (v := 9) hx hb dM_keyName_164 (by decide) ?_
                      refine lv_iconst (v := 1) hx hb dM_keyName_166 (by decide) ?_
                      refine lv_iconst (v := 0) hx hb dM_keyName_167 (by decide) ?_
                      refine lv_iconst (v := 0) hx hb dM_keyName_168 (by decide) ?_
                      refine zcall_l hP hD hS hA [] [] (va_runS (As := [.int 22, .int 9, .int 1, .int 0, .int 0]) (rest := []) ⟨hx, hb, hml, hown, hts⟩ (c_M_spelt l dC dI ad _ 22 9 1 0 0 _ h) ⟨callB_of 5 hts (zgood zc_M_spelt) rfl rfl rfl (hts _ zw_107) (hts _ zw_1158) (by decide +kernel) ⟨Nat.le_of_ble_eq_true rfl, Nat.le_of_ble_eq_true rfl⟩, (hts _ zw_1159)⟩ (zpreS hE hK hP hD hS hA [] [] (by rfl) (by rfl) (by decide)) rfl rfl hl.1 rfl (lv_room (Nat.le_of_ble_eq_true rfl)) dM_keyName_169 ⟨Nat.le_of_ble_eq_true rfl, Nat.le_of_ble_eq_true rfl⟩) (by rfl) (by rfl) (by decide) (by decide) (fun r20 u H locs h hP hD hS => ?_)
                      try dsimp only at h
                      have hP := hP.sub (ws' := (w_M_keyName ad )) [] rfl
                      have hD := hD.sub (ws' := (w_M_keyName ad )) [] (by decide) rfl
                      exact W.lret (v := r20) hx hb hr (fun t ht hW => ⟨⟨r20, (()), rfl, h, by rw [ht]; exact hP, hD⟩, hS.F ht⟩) hS.2.2 dM_keyName_172
                    · replace h := h.2 c19
                      refine lv_tableOut (tgt := 173) hx hb dM_keyName_1 (zz_out0_9 (by assumption) (by assumption) (by assumption) (by assumption) (by assumption) (by assumption) (by assumption) (by assumption) (by assumption) (by assumption)) (by decide) ?_
                      refine lv_bipush (v := 14) hx hb dM_keyName_173 (by decide) ?_
                      refine lv_iconst (v := 1) hx hb dM_keyName_175 (by decide) ?_
                      refine lv_bipush (v := 13) hx hb dM_keyName_176 (by decide) ?_
                      refine lv_iconst (v := 5) hx hb dM_keyName_178 (by decide) ?_
                      refine lv_iconst (v := 0) hx hb dM_keyName_179 (by decide) ?_
                      refine zcall_l hP hD hS hA [] [] (va_runS (As := [.int 14, .int 1, .int 13, .int 5, .int 0]) (rest := []) ⟨hx, hb, hml, hown, hts⟩ (c_M_spelt l dC dI ad _ 14 1 13 5 0 _ h) ⟨callB_of 5 hts (zgood zc_M_spelt) rfl rfl rfl (hts _ zw_107) (hts _ zw_1158) (by decide +kernel) ⟨Nat.le_of_ble_eq_true rfl, Nat.le_of_ble_eq_true rfl⟩, (hts _ zw_1159)⟩ (zpreS hE hK hP hD hS hA [] [] (by rfl) (by rfl) (by decide)) rfl rfl hl.1 rfl (lv_room (Nat.le_of_ble_eq_true rfl)) dM_keyName_180 ⟨Nat.le_of_ble_eq_true rfl, Nat.le_of_ble_eq_true rfl⟩) (by rfl) (by rfl) (by decide) (by decide) (fun r21 u H locs h hP hD hS => ?_)
                      try dsimp only at h
                      have hP := hP.sub (ws' := (w_M_keyName ad )) [] rfl
                      have hD := hD.sub (ws' := (w_M_keyName ad )) [] (by decide) rfl
                      exact W.lret (v := r21) hx hb hr (fun t ht hW => ⟨⟨r21, (()), rfl, h, by rw [ht]; exact hP, hD⟩, hS.F ht⟩) hS.2.2 dM_keyName_183
abbrev yM_number : MethodName := ⟨"FootprintRulesModel", "number", "()J"⟩
abbrev cM_number : ByteArray := prog_14_method_10_code
abbrev wsM_number : List Cond := .code yM_number cM_number 5 (some .long) :: zT
set_option maxRecDepth 100000 in
theorem zc_M_number : Cond.code yM_number cM_number 5 (some .long) ∈ zT := zm 1171 (by rfl) (by rfl)
theorem dM_number_0 : decode cM_number 0 = .ok (.lconst 0, 1) := by decide +kernel
theorem dM_number_1 : decode cM_number 1 = .ok (.lstore_n 1, 1) := by decide +kernel
theorem dM_number_2 : decode cM_number 2 = .ok (.aload_n 0, 1) := by decide +kernel
theorem dM_number_3 : decode cM_number 3 = .ok (.getfield 68, 3) := by decide +kernel
theorem dM_number_6 : decode cM_number 6 = .ok (.istore_n 3, 1) := by decide +kernel
theorem dM_number_7 : decode cM_number 7 = .ok (.iload_n 3, 1) := by decide +kernel
theorem dM_number_8 : decode cM_number 8 = .ok (.aload_n 0, 1) := by decide +kernel
theorem dM_number_9 : decode cM_number 9 = .ok (.getfield 61, 3) := by decide +kernel
theorem dM_number_12 : decode cM_number 12 = .ok (.if_icmp .ge 58, 3) := by decide +kernel
theorem dM_number_15 : decode cM_number 15 = .ok (.aload_n 0, 1) := by decide +kernel
theorem dM_number_16 : decode cM_number 16 = .ok (.getfield 7, 3) := by decide +kernel
theorem dM_number_19 : decode cM_number 19 = .ok (.iload_n 3, 1) := by decide +kernel
theorem dM_number_20 : decode cM_number 20 = .ok (.iaload, 1) := by decide +kernel
theorem dM_number_21 : decode cM_number 21 = .ok (.bipush 48, 2) := by decide +kernel
theorem dM_number_23 : decode cM_number 23 = .ok (.isub, 1) := by decide +kernel
theorem dM_number_24 : decode cM_number 24 = .ok (.istore 4, 2) := by decide +kernel
theorem dM_number_26 : decode cM_number 26 = .ok (.iload 4, 2) := by decide +kernel
theorem dM_number_28 : decode cM_number 28 = .ok (.ifCond .lt 10, 3) := by decide +kernel
theorem dM_number_31 : decode cM_number 31 = .ok (.iload 4, 2) := by decide +kernel
theorem dM_number_33 : decode cM_number 33 = .ok (.bipush 9, 2) := by decide +kernel
theorem dM_number_35 : decode cM_number 35 = .ok (.if_icmp .le 7, 3) := by decide +kernel
theorem dM_number_38 : decode cM_number 38 = .ok (.ldc2_w 74, 3) := by decide +kernel
theorem dM_number_41 : decode cM_number 41 = .ok (.lreturn, 1) := by decide +kernel
theorem dM_number_42 : decode cM_number 42 = .ok (.lload_n 1, 1) := by decide +kernel
theorem dM_number_43 : decode cM_number 43 = .ok (.ldc2_w 82, 3) := by decide +kernel
theorem dM_number_46 : decode cM_number 46 = .ok (.lcmp, 1) := by decide +kernel
theorem dM_number_47 : decode cM_number 47 = .ok (.ifCond .le 7, 3) := by decide +kernel
theorem dM_number_50 : decode cM_number 50 = .ok (.lload_n 1, 1) := by decide +kernel
theorem dM_number_51 : decode cM_number 51 = .ok (.goto 12, 3) := by decide +kernel
theorem dM_number_54 : decode cM_number 54 = .ok (.ldc2_w 84, 3) := by decide +kernel
theorem dM_number_57 : decode cM_number 57 = .ok (.lload_n 1, 1) := by decide +kernel
theorem dM_number_58 : decode cM_number 58 = .ok (.lmul, 1) := by decide +kernel
theorem dM_number_59 : decode cM_number 59 = .ok (.iload 4, 2) := by decide +kernel
theorem dM_number_61 : decode cM_number 61 = .ok (.i2l, 1) := by decide +kernel
theorem dM_number_62 : decode cM_number 62 = .ok (.ladd, 1) := by decide +kernel
theorem dM_number_63 : decode cM_number 63 = .ok (.lstore_n 1, 1) := by decide +kernel
theorem dM_number_64 : decode cM_number 64 = .ok (.iinc 3 1, 3) := by decide +kernel
theorem dM_number_67 : decode cM_number 67 = .ok (.goto (-60), 3) := by decide +kernel
theorem dM_number_70 : decode cM_number 70 = .ok (.aload_n 0, 1) := by decide +kernel
theorem dM_number_71 : decode cM_number 71 = .ok (.getfield 61, 3) := by decide +kernel
theorem dM_number_74 : decode cM_number 74 = .ok (.aload_n 0, 1) := by decide +kernel
theorem dM_number_75 : decode cM_number 75 = .ok (.getfield 68, 3) := by decide +kernel
theorem dM_number_78 : decode cM_number 78 = .ok (.isub, 1) := by decide +kernel
theorem dM_number_79 : decode cM_number 79 = .ok (.bipush 8, 2) := by decide +kernel
theorem dM_number_81 : decode cM_number 81 = .ok (.if_icmp .gt 11, 3) := by decide +kernel
theorem dM_number_84 : decode cM_number 84 = .ok (.lload_n 1, 1) := by decide +kernel
theorem dM_number_85 : decode cM_number 85 = .ok (.ldc2_w 86, 3) := by decide +kernel
theorem dM_number_88 : decode cM_number 88 = .ok (.lcmp, 1) := by decide +kernel
theorem dM_number_89 : decode cM_number 89 = .ok (.ifCond .le 9, 3) := by decide +kernel
theorem dM_number_92 : decode cM_number 92 = .ok (.ldc2_w 74, 3) := by decide +kernel
theorem dM_number_95 : decode cM_number 95 = .ok (.goto 4, 3) := by decide +kernel
theorem dM_number_98 : decode cM_number 98 = .ok (.lload_n 1, 1) := by decide +kernel
theorem dM_number_99 : decode cM_number 99 = .ok (.lreturn, 1) := by decide +kernel
-- FootprintRulesModel.number()J
abbrev w_M_number (ad : Nat → Nat → Nat) (a_this : Nat) (a_units : Nat) (a_kinds : Nat) (a_values : Nat) (a_names : Nat) (a_low : Nat) (a_high : Nat) (a_told : Nat) (a_leftOut : Nat) (a_isMade : Nat) (a_hands : Nat) (a_pad : Nat) (a_court : Nat) (a_title : Nat) (a_out : Nat) (k_units : ClassId) (v_this_thrown : Int32) (v_this_size : Int32) (v_this_families : Int32) (v_this_atHand : Int32) (v_this_family : Int32) (v_this_density : Int32) (v_this_pads : Int32) (v_this_hasThermal : Int32) (v_this_titleSize : Int32) (v_this_written : Int32) (v_this_at : Int32) (v_this_begin : Int32) (v_this_words : Int32) (v_this_paste0 : Int64) (v_units : Nat → Int32) : va_W := [(a_this, .inr (10, [.int v_this_thrown, .ref a_units, .int v_this_size, .int v_this_families, .ref a_kinds, .ref a_values, .ref a_names, .ref a_low, .ref a_high, .ref a_told, .ref a_leftOut, .ref a_isMade, .ref a_hands, .int v_this_atHand, .int v_this_family, .int v_this_density, .int v_this_pads, .ref a_pad, .ref a_court, .int v_this_hasThermal, .ref a_title, .int v_this_titleSize, .ref a_out, .int v_this_written, .int v_this_at, .int v_this_begin, .int v_this_words, .long v_this_paste0])), (a_units, .inl (k_units, 600, .inl v_units))]
def P_M_number_92  (post : Int64 → Prop)  : Prop := post (-1)
set_option maxHeartbeats 4000000 in
set_option maxRecDepth 100000 in
theorem w_M_number_92 (l : Launch) {p : Program} {e : Env} {s : State} {m : MethodId} {args : Array Value} {below : List Frame} {meth : Method} {c : Code} {dC : Nat → ClassId} {dI : Nat → Nat → Nat} {ad : Nat → Nat → Nat} {A : Nat → Prop} (C0 : zC p s m args meth c cM_number 5 RM zT (some .long) A) (hE : zE ad A s) (a_this : Nat) (a_units : Nat) (a_kinds : Nat) (a_values : Nat) (a_names : Nat) (a_low : Nat) (a_high : Nat) (a_told : Nat) (a_leftOut : Nat) (a_isMade : Nat) (a_hands : Nat) (a_pad : Nat) (a_court : Nat) (a_title : Nat) (a_out : Nat) (k_units : ClassId) (v_this_thrown : Int32) (v_this_size : Int32) (v_this_families : Int32) (v_this_atHand : Int32) (v_this_family : Int32) (v_this_density : Int32) (v_this_pads : Int32) (v_this_hasThermal : Int32) (v_this_titleSize : Int32) (v_this_written : Int32) (v_this_at : Int32) (v_this_begin : Int32) (v_this_words : Int32) (v_this_paste0 : Int64) (v_units : Nat → Int32) (post : Int64 → Prop) (hK : va_K (dC, dI) vwCl [(k_units, .int)] s) : ∀  (H : Heap) (locs : List Loc), P_M_number_92 post → va_P (dC, dI) vwCl (w_M_number ad a_this a_units a_kinds a_values a_names a_low a_high a_told a_leftOut a_isMade a_hands a_pad a_court a_title a_out k_units v_this_thrown v_this_size v_this_families v_this_atHand v_this_family v_this_density v_this_pads v_this_hasThermal v_this_titleSize v_this_written v_this_at v_this_begin v_this_words v_this_paste0 v_units) H → va_D A (w_M_number ad a_this a_units a_kinds a_values a_names a_low a_high a_told a_leftOut a_isMade a_hands a_pad a_court a_title a_out k_units v_this_thrown v_this_size v_this_families v_this_atHand v_this_family v_this_density v_this_pads v_this_hasThermal v_this_titleSize v_this_written v_this_at v_this_begin v_this_words v_this_paste0 v_units) → va_S A s.heap H locs → ∀ ls : Array Slot, lv_has ls 5 [] → W p l e (headSpec wsM_number { frames := 0, cells := 0, slots := 0, locals := 0 }).room s m args below meth c H locs 0 0 (MQ below (va_Ql (fun (r : Int64) (u : Unit) => post r) (zB (dC, dI) A (fun (u : Unit) => (w_M_number ad a_this a_units a_kinds a_values a_names a_low a_high a_told a_leftOut a_isMade a_hands a_pad a_court a_title a_out k_units v_this_thrown v_this_size v_this_families v_this_atHand v_this_family v_this_density v_this_pads v_this_hasThermal v_this_titleSize v_this_written v_this_at v_this_begin v_this_words v_this_paste0 v_units))) A) args s 0 0 A) (F0 m 92 ls []) := by
  obtain ⟨hx, hb, hr, hml, hown, hts, hlocks, hA⟩ := id C0
  intro  H locs h hP hD hS ls hl
  unfold P_M_number_92 at h
  refine lv_ldc2 (own := RM) (index := 74) (v := (-1)) hx hb hown (hts _ zw_1153) dM_number_92 ?_
  refine lv_goto (tgt := 99) hx hb dM_number_95 (by decide) ?_
  exact W.lret (v := (-1)) hx hb hr (fun t ht hW => ⟨⟨(-1), (()), rfl, h, by rw [ht]; exact hP, hD⟩, hS.F ht⟩) hS.2.2 dM_number_99
def P_M_number_63  (post : Int64 → Prop) (K7 : Int64 → Int32 → Prop) (y3 : Int32) (t0 : Int64) : Prop := ∀ x1 : Int32, x1 = y3 + 1 → K7 t0 x1
set_option maxHeartbeats 4000000 in
set_option maxRecDepth 100000 in
theorem w_M_number_63 (l : Launch) {p : Program} {e : Env} {s : State} {m : MethodId} {args : Array Value} {below : List Frame} {meth : Method} {c : Code} {dC : Nat → ClassId} {dI : Nat → Nat → Nat} {ad : Nat → Nat → Nat} {A : Nat → Prop} (C0 : zC p s m args meth c cM_number 5 RM zT (some .long) A) (hE : zE ad A s) (a_this : Nat) (a_units : Nat) (a_kinds : Nat) (a_values : Nat) (a_names : Nat) (a_low : Nat) (a_high : Nat) (a_told : Nat) (a_leftOut : Nat) (a_isMade : Nat) (a_hands : Nat) (a_pad : Nat) (a_court : Nat) (a_title : Nat) (a_out : Nat) (k_units : ClassId) (v_this_thrown : Int32) (v_this_size : Int32) (v_this_families : Int32) (v_this_atHand : Int32) (v_this_family : Int32) (v_this_density : Int32) (v_this_pads : Int32) (v_this_hasThermal : Int32) (v_this_titleSize : Int32) (v_this_written : Int32) (v_this_at : Int32) (v_this_begin : Int32) (v_this_words : Int32) (v_this_paste0 : Int64) (v_units : Nat → Int32) (post : Int64 → Prop) (K7 : Int64 → Int32 → Prop) (hK7 : ∀ (y1 : Int64) (y3 : Int32) (H : Heap) (locs : List Loc), K7 y1 y3 → va_P (dC, dI) vwCl (w_M_number ad a_this a_units a_kinds a_values a_names a_low a_high a_told a_leftOut a_isMade a_hands a_pad a_court a_title a_out k_units v_this_thrown v_this_size v_this_families v_this_atHand v_this_family v_this_density v_this_pads v_this_hasThermal v_this_titleSize v_this_written v_this_at v_this_begin v_this_words v_this_paste0 v_units) H → va_D A (w_M_number ad a_this a_units a_kinds a_values a_names a_low a_high a_told a_leftOut a_isMade a_hands a_pad a_court a_title a_out k_units v_this_thrown v_this_size v_this_families v_this_atHand v_this_family v_this_density v_this_pads v_this_hasThermal v_this_titleSize v_this_written v_this_at v_this_begin v_this_words v_this_paste0 v_units) → va_S A s.heap H locs → ∀ ls : Array Slot, lv_has ls 5 [(0, .ref a_this), (1, .long y1), (3, .int y3)] → W p l e (headSpec wsM_number { frames := 0, cells := 0, slots := 0, locals := 0 }).room s m args below meth c H locs 0 0 (MQ below (va_Ql (fun (r : Int64) (u : Unit) => post r) (zB (dC, dI) A (fun (u : Unit) => (w_M_number ad a_this a_units a_kinds a_values a_names a_low a_high a_told a_leftOut a_isMade a_hands a_pad a_court a_title a_out k_units v_this_thrown v_this_size v_this_families v_this_atHand v_this_family v_this_density v_this_pads v_this_hasThermal v_this_titleSize v_this_written v_this_at v_this_begin v_this_words v_this_paste0 v_units))) A) args s 0 0 A) (F0 m 7 ls [])) (hK : va_K (dC, dI) vwCl [(k_units, .int)] s) : ∀ (y3 : Int32) (t0 : Int64) (H : Heap) (locs : List Loc), P_M_number_63 post K7 y3 t0 → va_P (dC, dI) vwCl (w_M_number ad a_this a_units a_kinds a_values a_names a_low a_high a_told a_leftOut a_isMade a_hands a_pad a_court a_title a_out k_units v_this_thrown v_this_size v_this_families v_this_atHand v_this_family v_this_density v_this_pads v_this_hasThermal v_this_titleSize v_this_written v_this_at v_this_begin v_this_words v_this_paste0 v_units) H → va_D A (w_M_number ad a_this a_units a_kinds a_values a_names a_low a_high a_told a_leftOut a_isMade a_hands a_pad a_court a_title a_out k_units v_this_thrown v_this_size v_this_families v_this_atHand v_this_family v_this_density v_this_pads v_this_hasThermal v_this_titleSize v_this_written v_this_at v_this_begin v_this_words v_this_paste0 v_units) → va_S A s.heap H locs → ∀ ls : Array Slot, lv_has ls 5 [(0, .ref a_this), (3, .int y3)] → W p l e (headSpec wsM_number { frames := 0, cells := 0, slots := 0, locals := 0 }).room s m args below meth c H locs 0 0 (MQ below (va_Ql (fun (r : Int64) (u : Unit) => post r) (zB (dC, dI) A (fun (u : Unit) => (w_M_number ad a_this a_units a_kinds a_values a_names a_low a_high a_told a_leftOut a_isMade a_hands a_pad a_court a_title a_out k_units v_this_thrown v_this_size v_this_families v_this_atHand v_this_family v_this_density v_this_pads v_this_hasThermal v_this_titleSize v_this_written v_this_at v_this_begin v_this_words v_this_paste0 v_units))) A) args s 0 0 A) (F0 m 63 ls [.long t0]) := by
  obtain ⟨hx, hb, hr, hml, hown, hts, hlocks, hA⟩ := id C0
  intro y3 t0 H locs h hP hD hS ls hl
  unfold P_M_number_63 at h
  refine lv_lstore_n (lv' := [(1, .long t0), (0, .ref a_this), (3, .int y3)]) hx hb dM_number_63 rfl hl (by decide) rfl (fun ls hl => ?_)
  obtain ⟨x1, ex1⟩ : ∃ y : Int32, y = y3 + 1 := ⟨_, rfl⟩
  replace h := h x1 ex1
  refine lv_iinc (v := x1) (lv' := [(3, .int x1), (1, .long t0), (0, .ref a_this)]) hx hb dM_number_64 hl (k := 2) rfl (by rw [ex1]; rfl) (by decide) rfl (fun ls hl => ?_)
  refine lv_goto (tgt := 7) hx hb dM_number_67 (by decide) ?_
  exact hK7 t0 x1 _ _ h hP hD hS ls (lv_sub hl [2, 1, 0] rfl)
def P_M_number_7 (v_this_at : Int32) (v_this_begin : Int32) (v_units : Nat → Int32) (post : Int64 → Prop) : Nat → Int64 → Int32 → Prop
  | 0, _, _ => False
  | n + 1, y1, y3 => ((v_this_at ≤ y3 → ((8 < (v_this_at - v_this_begin) → P_M_number_92 post) ∧ (¬ 8 < (v_this_at - v_this_begin) → ((y1 ≤ 10000000 → post y1) ∧ (¬ y1 ≤ 10000000 → P_M_number_92 post))))) ∧ (¬ v_this_at ≤ y3 → vp_in y3 600 ∧ ∀ x5 : Int32, x5 = (v_units y3.toNatClampNeg) - 48 → ((x5 < 0 → post (-1)) ∧ (¬ x5 < 0 → ((x5 ≤ 9 → ((y1 ≤ 100000000 → P_M_number_63 post (P_M_number_7 v_this_at v_this_begin v_units post n) y3 ((10 * y1) + x5.toInt64)) ∧ (¬ y1 ≤ 100000000 → P_M_number_63 post (P_M_number_7 v_this_at v_this_begin v_units post n) y3 y1))) ∧ (¬ x5 ≤ 9 → post (-1)))))))
set_option maxHeartbeats 4000000 in
set_option maxRecDepth 100000 in
theorem w_M_number_7 (l : Launch) {p : Program} {e : Env} {s : State} {m : MethodId} {args : Array Value} {below : List Frame} {meth : Method} {c : Code} {dC : Nat → ClassId} {dI : Nat → Nat → Nat} {ad : Nat → Nat → Nat} {A : Nat → Prop} (C0 : zC p s m args meth c cM_number 5 RM zT (some .long) A) (hE : zE ad A s) (a_this : Nat) (a_units : Nat) (a_kinds : Nat) (a_values : Nat) (a_names : Nat) (a_low : Nat) (a_high : Nat) (a_told : Nat) (a_leftOut : Nat) (a_isMade : Nat) (a_hands : Nat) (a_pad : Nat) (a_court : Nat) (a_title : Nat) (a_out : Nat) (k_units : ClassId) (v_this_thrown : Int32) (v_this_size : Int32) (v_this_families : Int32) (v_this_atHand : Int32) (v_this_family : Int32) (v_this_density : Int32) (v_this_pads : Int32) (v_this_hasThermal : Int32) (v_this_titleSize : Int32) (v_this_written : Int32) (v_this_at : Int32) (v_this_begin : Int32) (v_this_words : Int32) (v_this_paste0 : Int64) (v_units : Nat → Int32) (post : Int64 → Prop) (hK : va_K (dC, dI) vwCl [(k_units, .int)] s) : ∀ (n : Nat), ∀ (y1 : Int64) (y3 : Int32) (H : Heap) (locs : List Loc), P_M_number_7 v_this_at v_this_begin v_units post n y1 y3 → va_P (dC, dI) vwCl (w_M_number ad a_this a_units a_kinds a_values a_names a_low a_high a_told a_leftOut a_isMade a_hands a_pad a_court a_title a_out k_units v_this_thrown v_this_size v_this_families v_this_atHand v_this_family v_this_density v_this_pads v_this_hasThermal v_this_titleSize v_this_written v_this_at v_this_begin v_this_words v_this_paste0 v_units) H → va_D A (w_M_number ad a_this a_units a_kinds a_values a_names a_low a_high a_told a_leftOut a_isMade a_hands a_pad a_court a_title a_out k_units v_this_thrown v_this_size v_this_families v_this_atHand v_this_family v_this_density v_this_pads v_this_hasThermal v_this_titleSize v_this_written v_this_at v_this_begin v_this_words v_this_paste0 v_units) → va_S A s.heap H locs → ∀ ls : Array Slot, lv_has ls 5 [(0, .ref a_this), (1, .long y1), (3, .int y3)] → W p l e (headSpec wsM_number { frames := 0, cells := 0, slots := 0, locals := 0 }).room s m args below meth c H locs 0 0 (MQ below (va_Ql (fun (r : Int64) (u : Unit) => post r) (zB (dC, dI) A (fun (u : Unit) => (w_M_number ad a_this a_units a_kinds a_values a_names a_low a_high a_told a_leftOut a_isMade a_hands a_pad a_court a_title a_out k_units v_this_thrown v_this_size v_this_families v_this_atHand v_this_family v_this_density v_this_pads v_this_hasThermal v_this_titleSize v_this_written v_this_at v_this_begin v_this_words v_this_paste0 v_units))) A) args s 0 0 A) (F0 m 7 ls []) := by
  obtain ⟨hx, hb, hr, hml, hown, hts, hlocks, hA⟩ := id C0
  intro n
  induction n with
  | zero =>
    intro y1 y3 H locs h
    exact False.elim h
  | succ n ih =>
    intro y1 y3 H locs h hP hD hS ls hl
    rw [P_M_number_7] at h
    refine lv_iload_n hx hb dM_number_7 rfl (lv_at hl 2 rfl) ?_
    refine lv_aload_n hx hb dM_number_8 rfl (lv_at hl 0 rfl) ?_
    refine va_get (D := (dC, dI)) (ci := 10) (v := .int v_this_at) (C := RM) (T := TM) (N := 28) hx hb hts inZ_M hown hK hP 0 rfl rfl 24 (by decide) (hts _ zw_1068) (fun _ h9 => h9) rfl dM_number_9 ?_
    refine lv_icmp_ge (tgt := 70) hx hb dM_number_12 (by decide) ?_ ?_
    · intro c1
      replace h := h.1 c1
      refine lv_aload_n hx hb dM_number_70 rfl (lv_at hl 0 rfl) ?_
      refine va_get (D := (dC, dI)) (ci := 10) (v := .int v_this_at) (C := RM) (T := TM) (N := 28) hx hb hts inZ_M hown hK hP 0 rfl rfl 24 (by decide) (hts _ zw_1068) (fun _ h9 => h9) rfl dM_number_71 ?_
      refine lv_aload_n hx hb dM_number_74 rfl (lv_at hl 0 rfl) ?_
      refine va_get (D := (dC, dI)) (ci := 10) (v := .int v_this_begin) (C := RM) (T := TM) (N := 28) hx hb hts inZ_M hown hK hP 0 rfl rfl 25 (by decide) (hts _ zw_1069) (fun _ h9 => h9) rfl dM_number_75 ?_
      refine lv_isub hx hb dM_number_78 ?_
      refine lv_bipush (v := 8) hx hb dM_number_79 (by decide) ?_
      refine lv_icmp_gt (tgt := 92) hx hb dM_number_81 (by decide) ?_ ?_
      · intro c2
        replace h := h.1 c2
        exact w_M_number_92 l C0 hE a_this a_units a_kinds a_values a_names a_low a_high a_told a_leftOut a_isMade a_hands a_pad a_court a_title a_out k_units v_this_thrown v_this_size v_this_families v_this_atHand v_this_family v_this_density v_this_pads v_this_hasThermal v_this_titleSize v_this_written v_this_at v_this_begin v_this_words v_this_paste0 v_units post hK _ _ h hP hD hS ls (lv_sub hl [] rfl)
      · intro c2
        replace h := h.2 c2
        refine lv_lload_n hx hb dM_number_84 rfl (lv_at hl 1 rfl) ?_
        refine lv_ldc2 (own := RM) (index := 86) (v := 10000000) hx hb hown (hts _ zw_1174) dM_number_85 ?_
        refine zz_lcmp_le (tgt := 98) hx hb dM_number_88 dM_number_89 (by decide) ?_ ?_
        · intro c3
          replace h := h.1 c3
          refine lv_lload_n hx hb dM_number_98 rfl (lv_at hl 1 rfl) ?_
          exact W.lret (v := y1) hx hb hr (fun t ht hW => ⟨⟨y1, (()), rfl, h, by rw [ht]; exact hP, hD⟩, hS.F ht⟩) hS.2.2 dM_number_99
        · intro c3
          replace h := h.2 c3
          exact w_M_number_92 l C0 hE a_this a_units a_kinds a_values a_names a_low a_high a_told a_leftOut a_isMade a_hands a_pad a_court a_title a_out k_units v_this_thrown v_this_size v_this_families v_this_atHand v_this_family v_this_density v_this_pads v_this_hasThermal v_this_titleSize v_this_written v_this_at v_this_begin v_this_words v_this_paste0 v_units post hK _ _ h hP hD hS ls (lv_sub hl [] rfl)
    · intro c1
      replace h := h.2 c1
      refine lv_aload_n hx hb dM_number_15 rfl (lv_at hl 0 rfl) ?_
      refine va_get (D := (dC, dI)) (ci := 10) (v := .ref a_units) (C := RM) (T := TM) (N := 28) hx hb hts inZ_M hown hK hP 0 rfl rfl 1 (by decide) (hts _ zw_1045) (fun _ h9 => h9) rfl dM_number_16 ?_
      refine lv_iload_n hx hb dM_number_19 rfl (lv_at hl 2 rfl) ?_
      obtain ⟨hn4, h⟩ := h
      refine va_iald hx hb hK hP 1 0 rfl rfl hn4 dM_number_20 ?_
      refine lv_bipush (v := 48) hx hb dM_number_21 (by decide) ?_
      refine lv_isub hx hb dM_number_23 ?_
      refine lv_topi (fun x5 ex5 => ?_)
      replace h := h x5 ex5
      refine lv_istore (lv' := [(4, .int x5), (0, .ref a_this), (1, .long y1), (3, .int y3)]) hx hb dM_number_24 hl (by decide) rfl (fun ls hl => ?_)
      refine lv_iload hx hb dM_number_26 (lv_at hl 0 rfl) ?_
      refine lv_if_lt (tgt := 38) hx hb dM_number_28 (by decide) ?_ ?_
      · intro c6
        replace h := h.1 c6
        refine lv_ldc2 (own := RM) (index := 74) (v := (-1)) hx hb hown (hts _ zw_1153) dM_number_38 ?_
        exact W.lret (v := (-1)) hx hb hr (fun t ht hW => ⟨⟨(-1), (()), rfl, h, by rw [ht]; exact hP, hD⟩, hS.F ht⟩) hS.2.2 dM_number_41
      · intro c6
        replace h := h.2 c6
        refine lv_iload hx hb dM_number_31 (lv_at hl 0 rfl) ?_
        refine lv_bipush (v := 9) hx hb dM_number_33 (by decide) ?_
        refine lv_icmp_le (tgt := 42) hx hb dM_number_35 (by decide) ?_ ?_
        · intro c7
          replace h := h.1 c7
          refine lv_lload_n hx hb dM_number_42 rfl (lv_at hl 2 rfl) ?_
          refine lv_ldc2 (own := RM) (index := 82) (v := 100000000) hx hb hown (hts _ zw_1172) dM_number_43 ?_
          refine zz_lcmp_le (tgt := 54) hx hb dM_number_46 dM_number_47 (by decide) ?_ ?_
          · intro c8
            replace h := h.1 c8
            refine lv_ldc2 (own := RM) (index := 84) (v := 10) hx hb hown (hts _ zw_1173) dM_number_54 ?_
            refine lv_lload_n hx hb dM_number_57 rfl (lv_at hl 2 rfl) ?_
            refine lv_lmul hx hb dM_number_58 ?_
            refine lv_iload hx hb dM_number_59 (lv_at hl 0 rfl) ?_
            refine lv_i2l hx hb dM_number_61 rfl ?_
            refine lv_ladd hx hb dM_number_62 ?_
            exact w_M_number_63 l C0 hE a_this a_units a_kinds a_values a_names a_low a_high a_told a_leftOut a_isMade a_hands a_pad a_court a_title a_out k_units v_this_thrown v_this_size v_this_families v_this_atHand v_this_family v_this_density v_this_pads v_this_hasThermal v_this_titleSize v_this_written v_this_at v_this_begin v_this_words v_this_paste0 v_units post (P_M_number_7 v_this_at v_this_begin v_units post n) ih hK y3 ((10 * y1) + x5.toInt64) _ _ h hP hD hS ls (lv_sub hl [1, 3] rfl)
          · intro c8
            replace h := h.2 c8
            refine lv_lload_n hx hb dM_number_50 rfl (lv_at hl 2 rfl) ?_
            refine lv_goto (tgt := 63) hx hb dM_number_51 (by decide) ?_
            exact w_M_number_63 l C0 hE a_this a_units a_kinds a_values a_names a_low a_high a_told a_leftOut a_isMade a_hands a_pad a_court a_title a_out k_units v_this_thrown v_this_size v_this_families v_this_atHand v_this_family v_this_density v_this_pads v_this_hasThermal v_this_titleSize v_this_written v_this_at v_this_begin v_this_words v_this_paste0 v_units post (P_M_number_7 v_this_at v_this_begin v_units post n) ih hK y3 y1 _ _ h hP hD hS ls (lv_sub hl [1, 3] rfl)
        · intro c7
          replace h := h.2 c7
          refine lv_ldc2 (own := RM) (index := 74) (v := (-1)) hx hb hown (hts _ zw_1153) dM_number_38 ?_
          exact W.lret (v := (-1)) hx hb hr (fun t ht hW => ⟨⟨(-1), (()), rfl, h, by rw [ht]; exact hP, hD⟩, hS.F ht⟩) hS.2.2 dM_number_41
def P_M_number (v_this_at : Int32) (v_this_begin : Int32) (v_units : Nat → Int32) (post : Int64 → Prop) : Prop := ∃ n1, P_M_number_7 v_this_at v_this_begin v_units post n1 0 v_this_begin
set_option maxHeartbeats 4000000 in
set_option maxRecDepth 100000 in
theorem c_M_number (l : Launch) (dC : Nat → ClassId) (dI : Nat → Nat → Nat) (ad : Nat → Nat → Nat) (a_this : Nat) (a_units : Nat) (a_kinds : Nat) (a_values : Nat) (a_names : Nat) (a_low : Nat) (a_high : Nat) (a_told : Nat) (a_leftOut : Nat) (a_isMade : Nat) (a_hands : Nat) (a_pad : Nat) (a_court : Nat) (a_title : Nat) (a_out : Nat) (k_units : ClassId) (sz : Nat) (v_this_thrown : Int32) (v_this_size : Int32) (v_this_families : Int32) (v_this_atHand : Int32) (v_this_family : Int32) (v_this_density : Int32) (v_this_pads : Int32) (v_this_hasThermal : Int32) (v_this_titleSize : Int32) (v_this_written : Int32) (v_this_at : Int32) (v_this_begin : Int32) (v_this_words : Int32) (v_this_paste0 : Int64) (v_units : Nat → Int32) (post : Int64 → Prop) (h : P_M_number v_this_at v_this_begin v_units post) : zMl l yM_number wsM_number { frames := 0, cells := 0, slots := 0, locals := 0 } (dC, dI) ad [.ref a_this] (w_M_number ad a_this a_units a_kinds a_values a_names a_low a_high a_told a_leftOut a_isMade a_hands a_pad a_court a_title a_out k_units v_this_thrown v_this_size v_this_families v_this_atHand v_this_family v_this_density v_this_pads v_this_hasThermal v_this_titleSize v_this_written v_this_at v_this_begin v_this_words v_this_paste0 v_units) [(k_units, .int)] sz (fun (r : Int64) (u : Unit) => post r) (fun (u : Unit) => (w_M_number ad a_this a_units a_kinds a_values a_names a_low a_high a_told a_leftOut a_isMade a_hands a_pad a_court a_title a_out k_units v_this_thrown v_this_size v_this_families v_this_atHand v_this_family v_this_density v_this_pads v_this_hasThermal v_this_titleSize v_this_written v_this_at v_this_begin v_this_words v_this_paste0 v_units)) 0 0 := by
  refine Met.ofW (cc := cM_number) (maxL := 5) (ret := (some .long)) (by decide +kernel) rfl ?_
  intro p e s m args below meth c s₁ B hml hv
  obtain ⟨rfl, hsz, hP, hK, hD0, hE⟩ := hv
  have hx := B.exec
  have hb := B.bytes
  have hr := B.returns
  have hts0 := atoms_spec (ws := wsM_number) B.pre
  have hts := fun w h => hts0 w (List.mem_cons_of_mem _ h)
  have hown : s.vm.findClass RM = some m.cls := findClass_of_methodNamed B.named
  have hlocks := B.notSynchronized
  subst hsz
  have hD := hD0.self (sz := s.heap.size)
  generalize hAe : va_A (w_M_number ad a_this a_units a_kinds a_values a_names a_low a_high a_told a_leftOut a_isMade a_hands a_pad a_court a_title a_out k_units v_this_thrown v_this_size v_this_families v_this_atHand v_this_family v_this_density v_this_pads v_this_hasThermal v_this_titleSize v_this_written v_this_at v_this_begin v_this_words v_this_paste0 v_units) s.heap.size = A at hD hE ⊢
  have hA : ∀ q : Nat, s.heap.size ≤ q → A q := fun q h => by rw [← hAe]; exact Or.inr h
  have C0 := zC.mk hx hb hr hml hown hts hlocks hA
  have hS : va_S A s.heap s.heap [] := va_S.rf
  have hl := lv_entry ([.ref a_this]) (n := 5) (Nat.le_of_ble_eq_true rfl)
  rw [lg_entry_eq]
  generalize (lg_sl ([.ref a_this]) ++ List.replicate (5 - (lg_sl ([.ref a_this])).length) Slot.unset).toArray = ls at hl ⊢
  have hl : lv_has ls 5 [(0, .ref a_this)] := hl
  unfold P_M_number at h
  refine lv_lconst (v := 0) hx hb dM_number_0 (by decide) ?_
  refine lv_lstore_n (lv' := [(1, .long 0), (0, .ref a_this)]) hx hb dM_number_1 rfl hl (by decide) rfl (fun ls hl => ?_)
  refine lv_aload_n hx hb dM_number_2 rfl (lv_at hl 1 rfl) ?_
  refine va_get (D := (dC, dI)) (ci := 10) (v := .int v_this_begin) (C := RM) (T := TM) (N := 28) hx hb hts inZ_M hown hK hP 0 rfl rfl 25 (by decide) (hts _ zw_1069) (fun _ h9 => h9) rfl dM_number_3 ?_
  refine lv_istore_n (lv' := [(3, .int v_this_begin), (1, .long 0), (0, .ref a_this)]) hx hb dM_number_6 rfl hl (by decide) rfl (fun ls hl => ?_)
  obtain ⟨n1, h⟩ := h
  exact w_M_number_7 l C0 hE a_this a_units a_kinds a_values a_names a_low a_high a_told a_leftOut a_isMade a_hands a_pad a_court a_title a_out k_units v_this_thrown v_this_size v_this_families v_this_atHand v_this_family v_this_density v_this_pads v_this_hasThermal v_this_titleSize v_this_written v_this_at v_this_begin v_this_words v_this_paste0 v_units post hK n1 0 v_this_begin _ _ h hP hD hS ls (lv_sub hl [2, 1, 0] rfl)
