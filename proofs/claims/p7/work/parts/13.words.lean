theorem pd_43 : (parseMethodDescriptor "(Ljava/lang/String;)Ljava/lang/StringBuilder;").map (fun d => d.parameters.length) = some 1 := by decide +kernel
theorem pd_44 : (parseMethodDescriptor "(J[J[JI)J").map (fun d => d.parameters.length) = some 4 := by decide +kernel
theorem pd_45 : (parseMethodDescriptor "([JIJ)Z").map (fun d => d.parameters.length) = some 3 := by decide +kernel
theorem pd_46 : (parseMethodDescriptor "([J[JI)I").map (fun d => d.parameters.length) = some 3 := by decide +kernel
theorem pd_47 : (parseMethodDescriptor "()[J").map (fun d => d.parameters.length) = some 0 := by decide +kernel
theorem pd_48 : (parseMethodDescriptor "([J)I").map (fun d => d.parameters.length) = some 1 := by decide +kernel
theorem pd_49 : (parseMethodDescriptor "(ZZ)Z").map (fun d => d.parameters.length) = some 2 := by decide +kernel
theorem pd_50 : (parseMethodDescriptor "(Z)Z").map (fun d => d.parameters.length) = some 1 := by decide +kernel
theorem pd_51 : (parseMethodDescriptor "([JIJ)I").map (fun d => d.parameters.length) = some 3 := by decide +kernel
theorem pd_52 : (parseMethodDescriptor "(JJZ)Z").map (fun d => d.parameters.length) = some 3 := by decide +kernel
theorem pd_53 : (parseMethodDescriptor "(JJJJ)Z").map (fun d => d.parameters.length) = some 4 := by decide +kernel
theorem pd_54 : (parseMethodDescriptor "(JJI)Z").map (fun d => d.parameters.length) = some 3 := by decide +kernel
theorem pd_55 : (parseMethodDescriptor "([I)I").map (fun d => d.parameters.length) = some 1 := by decide +kernel
theorem pd_56 : (parseMethodDescriptor "(II)I").map (fun d => d.parameters.length) = some 2 := by decide +kernel
theorem pd_57 : (parseMethodDescriptor "()[I").map (fun d => d.parameters.length) = some 0 := by decide +kernel
theorem pd_58 : (parseMethodDescriptor "([JJ)[J").map (fun d => d.parameters.length) = some 2 := by decide +kernel
theorem kw_1070 : Cond.methodLink RX3 1 objectInit ∈ kBIG := kb_c5 54 rfl (by decide +kernel)
theorem kw_1071 : Cond.constantLong RX3 13 (86400000000000) ∈ kBIG := kb_c5 55 rfl (by decide +kernel)
theorem kw_1072 : Cond.fieldLink RX3 7 "SpanbookerModel" "cells" "[J" ∈ kBIG := kb_c5 56 rfl (by decide +kernel)
theorem kw_1073 : Cond.fieldLink RX3 53 "SpanbookerModel" "from" "J" ∈ kBIG := kb_c5 57 rfl (by decide +kernel)
theorem kw_1074 : Cond.fieldLink RX3 15 "SpanbookerModel" "until" "J" ∈ kBIG := kb_c5 58 rfl (by decide +kernel)
theorem kw_1075 : Cond.fieldLink RX3 19 "SpanbookerModel" "begins" "[J" ∈ kBIG := kb_c5 59 rfl (by decide +kernel)
theorem kw_1076 : Cond.fieldLink RX3 22 "SpanbookerModel" "ends" "[J" ∈ kBIG := kb_c5 60 rfl (by decide +kernel)
theorem kw_1077 : Cond.fieldLink RX3 25 "SpanbookerModel" "over" "[Z" ∈ kBIG := kb_c5 61 rfl (by decide +kernel)
theorem kw_1078 : Cond.fieldLink RX3 56 "SpanbookerModel" "spans" "I" ∈ kBIG := kb_c5 62 rfl (by decide +kernel)
theorem kw_1079 : Cond.fieldLink RX3 29 "SpanbookerModel" "wishBegins" "[J" ∈ kBIG := kb_c5 63 rfl (by decide +kernel)
theorem kw_1080 : Cond.fieldLink RX3 32 "SpanbookerModel" "wishEnds" "[J" ∈ kBIG := kb_c5 64 rfl (by decide +kernel)
theorem kw_1081 : Cond.fieldLink RX3 88 "SpanbookerModel" "wishes" "I" ∈ kBIG := kb_c5 65 rfl (by decide +kernel)
theorem kw_1082 : Cond.fieldLink RX3 117 "SpanbookerModel" "acts" "I" ∈ kBIG := kb_c5 66 rfl (by decide +kernel)
theorem kw_1083 : Cond.fieldLink RX3 120 "SpanbookerModel" "refused" "I" ∈ kBIG := kb_c5 67 rfl (by decide +kernel)
theorem kw_1084 : Cond.fieldLink RX3 236 "SpanbookerModel" "knocks" "I" ∈ kBIG := kb_c5 68 rfl (by decide +kernel)
theorem kw_1085 : Cond.fieldLink RX3 35 "SpanbookerModel" "thrown" "I" ∈ kBIG := kb_c5 69 rfl (by decide +kernel)
theorem kw_1123 : Cond.methodLink RX3 123 yX3_is ∈ kBIG := kb_c5 107 rfl (by decide +kernel)
theorem kw_1126 : Cond.constant RX3 126 (-1000000000) ∈ kBIG := kb_c5 110 rfl (by decide +kernel)
theorem kw_1127 : Cond.constant RX3 127 (1000000000) ∈ kBIG := kb_c5 111 rfl (by decide +kernel)
theorem kw_1128 : Cond.constant RX3 111 (-2000000000) ∈ kBIG := kb_c5 112 rfl (by decide +kernel)
theorem kw_1129 : Cond.constant RX3 112 (2000000000) ∈ kBIG := kb_c5 113 rfl (by decide +kernel)
theorem kw_1130 : Cond.methodLink RX3 113 yX3_isThrown ∈ kBIG := kb_c5 114 rfl (by decide +kernel)
theorem kw_1134 : Cond.constantLong RX3 39 (1000000000) ∈ kBIG := kb_c5 118 rfl (by decide +kernel)
theorem kw_1135 : Cond.methodLink RX3 128 yX3_isLet ∈ kBIG := kb_c5 119 rfl (by decide +kernel)
theorem kw_1138 : Cond.constantLong RX3 47 (-1000000000000000000) ∈ kBIG := kb_c5 122 rfl (by decide +kernel)
theorem kw_1139 : Cond.constantLong RX3 49 (1000000001000000000) ∈ kBIG := kb_c5 123 rfl (by decide +kernel)
theorem kw_1140 : Cond.methodLink RX3 132 yX3_no ∈ kBIG := kb_c5 124 rfl (by decide +kernel)
theorem kw_1144 : Cond.methodLink RX3 43 yX3_secondOf ∈ kBIG := kb_c5 128 rfl (by decide +kernel)
theorem kw_1147 : Cond.constantLong RX3 41 (999999999) ∈ kBIG := kb_c5 131 rfl (by decide +kernel)
theorem kw_1148 : Cond.methodLink RX3 136 yX3_done ∈ kBIG := kb_c5 132 rfl (by decide +kernel)
theorem kw_1156 : Cond.methodLink RX3 139 yX3_isNoUnit ∈ kBIG := kb_c5 140 rfl (by decide +kernel)
theorem kw_1159 : Cond.methodLink RX3 142 yX3_units ∈ kBIG := kb_c5 143 rfl (by decide +kernel)
theorem kw_1162 : Cond.constantLong RX3 51 (1000000) ∈ kBIG := kb_c5 146 rfl (by decide +kernel)
theorem kw_1163 : Cond.methodLink RX3 146 yX3_sign ∈ kBIG := kb_c5 147 rfl (by decide +kernel)
theorem kw_1170 : Cond.methodLink RX3 149 yX3_isThrown_ ∈ kBIG := kb_c5 154 rfl (by decide +kernel)
theorem kw_1186 : Cond.methodLink RX3 152 yX3_areLet ∈ kBIG := kb_c5 170 rfl (by decide +kernel)
theorem kw_1189 : Cond.methodLink RX3 156 yX3_shifted ∈ kBIG := kb_c5 173 rfl (by decide +kernel)
theorem kw_1200 : Cond.methodLink RX3 160 yX3_mayCome ∈ kBIG := kb_c5 184 rfl (by decide +kernel)
theorem kw_1204 : Cond.methodLink RX3 80 yX3_isIn ∈ kBIG := kb_c5 188 rfl (by decide +kernel)
theorem kw_1208 : Cond.methodLink RX3 84 yX3_meetsSome ∈ kBIG := kb_c5 192 rfl (by decide +kernel)
theorem kw_1212 : Cond.methodLink RX3 59 yX3_meet ∈ kBIG := kb_c5 196 rfl (by decide +kernel)
theorem kw_1215 : Cond.methodLink RX3 164 yX3_come ∈ kBIG := kb_c5 199 rfl (by decide +kernel)
theorem kw_1223 : Cond.methodLink RX3 168 yX3_isSpan ∈ kBIG := kb_c5 207 rfl (by decide +kernel)
theorem kw_1235 : Cond.methodLink RX3 171 yX3_less ∈ kBIG := kb_c5 219 rfl (by decide +kernel)
theorem kw_1246 : Cond.methodLink RX3 175 Lib.MathLoose.max_long.x ∈ kBIG := kb_c5 230 rfl (by decide +kernel)
theorem kw_1247 : Cond.methodLink RX3 178 yX3_fits ∈ kBIG := kb_c5 231 rfl (by decide +kernel)
theorem kw_1259 : Cond.methodLink RX3 181 yX3_isWish ∈ kBIG := kb_c6 3 rfl (by decide +kernel)
theorem kw_1263 : Cond.methodLink RX3 184 yX3_gone ∈ kBIG := kb_c6 7 rfl (by decide +kernel)
theorem kw_1279 : Cond.methodLink RX3 188 yX3_nanoOf ∈ kBIG := kb_c6 23 rfl (by decide +kernel)
theorem kw_1287 : Cond.classLink RX3 193 RJ4 ∈ kBIG := kb_c6 31 rfl (by decide +kernel)
theorem kw_1288 : Cond.methodLink RX3 195 yJ4_init_da8c8 ∈ kBIG := kb_c6 32 rfl (by decide +kernel)
theorem kw_1289 : Cond.methodLink RX3 196 yJ4_append_bf812 ∈ kBIG := kb_c6 33 rfl (by decide +kernel)
theorem kw_1291 : Cond.methodLink RX3 202 yJ4_append_15ec4 ∈ kBIG := kb_c6 35 rfl (by decide +kernel)
theorem kw_1292 : Cond.methodLink RX3 205 yJ4_toString_0e30d ∈ kBIG := kb_c6 36 rfl (by decide +kernel)
theorem kw_1297 : Cond.methodLink RX3 209 yX3_areNone ∈ kBIG := kb_c6 41 rfl (by decide +kernel)
theorem kw_1317 : Cond.methodLink RX3 212 yX3_half ∈ kBIG := kb_c6 61 rfl (by decide +kernel)
theorem kw_1344 : Cond.methodLink RX3 63 yX3_spanAt ∈ kBIG := kb_c6 88 rfl (by decide +kernel)
theorem kw_1352 : Cond.methodLink RX3 216 yX3_deepest ∈ kBIG := kb_c6 96 rfl (by decide +kernel)
theorem kw_1355 : Cond.methodLink RX3 74 Lib.Math.max.name ∈ kBIG := kb_c6 99 rfl (by decide +kernel)
theorem kw_1364 : Cond.methodLink RX3 66 yX3_free ∈ kBIG := kb_c6 108 rfl (by decide +kernel)
theorem kw_1368 : Cond.methodLink RX3 70 yX3_freesOf ∈ kBIG := kb_c6 112 rfl (by decide +kernel)
theorem kw_1383 : Cond.methodLink RX3 220 yX3_takenLength ∈ kBIG := kb_c6 127 rfl (by decide +kernel)
theorem kw_1387 : Cond.methodLink RX3 224 yX3_freeLength ∈ kBIG := kb_c6 131 rfl (by decide +kernel)
theorem kw_1403 : Cond.methodLink RX3 95 yX3_areApart ∈ kBIG := kb_c6 147 rfl (by decide +kernel)
theorem kw_1407 : Cond.methodLink RX3 91 yX3_wishesMeet ∈ kBIG := kb_c6 151 rfl (by decide +kernel)
theorem kw_1415 : Cond.methodLink RX3 227 yX3_chosenNow ∈ kBIG := kb_c6 159 rfl (by decide +kernel)
theorem kw_1423 : Cond.methodLink RX3 99 yX3_ones ∈ kBIG := kb_c6 167 rfl (by decide +kernel)
theorem kw_1426 : Cond.methodLink RX3 230 yX3_mostOfAll ∈ kBIG := kb_c6 170 rfl (by decide +kernel)
theorem kw_1438 : Cond.methodLink RX3 107 yX3_roomsNow ∈ kBIG := kb_c6 182 rfl (by decide +kernel)
theorem kw_1442 : Cond.methodLink RX3 103 yX3_nextWish ∈ kBIG := kb_c6 186 rfl (by decide +kernel)
theorem kw_1450 : Cond.methodLink RX3 233 yX3_roomsOf ∈ kBIG := kb_c6 194 rfl (by decide +kernel)
theorem kw_1466 : Cond.methodLink RX3 239 yX3_areSpans ∈ kBIG := kb_c6 210 rfl (by decide +kernel)
theorem kw_1474 : Cond.constantLong RX3 245 (8009) ∈ kBIG := kb_c6 218 rfl (by decide +kernel)
theorem kw_1475 : Cond.constantLong RX3 243 (31) ∈ kBIG := kb_c6 219 rfl (by decide +kernel)
theorem kw_1476 : Cond.methodLink RX3 247 yX3_second ∈ kBIG := kb_c6 220 rfl (by decide +kernel)
theorem kw_1477 : Cond.methodLink RX3 250 yX3_nano ∈ kBIG := kb_c6 221 rfl (by decide +kernel)
theorem kw_1478 : Cond.methodLink RX3 253 yX3_at ∈ kBIG := kb_c6 222 rfl (by decide +kernel)
theorem kw_1479 : Cond.methodLink RX3 256 yX3_freeAt ∈ kBIG := kb_c6 223 rfl (by decide +kernel)
theorem kw_1480 : Cond.methodLink RX3 259 yX3_calendar ∈ kBIG := kb_c6 224 rfl (by decide +kernel)
theorem kw_1481 : Cond.methodLink RX3 262 yX3_added ∈ kBIG := kb_c6 225 rfl (by decide +kernel)
theorem kw_1485 : Cond.methodLink RX3 266 yX3_clashes ∈ kBIG := kb_c6 229 rfl (by decide +kernel)
theorem kw_1486 : Cond.methodLink RX3 269 yX3_deepest_ ∈ kBIG := kb_c6 230 rfl (by decide +kernel)
theorem kw_1487 : Cond.methodLink RX3 271 yX3_frees ∈ kBIG := kb_c6 231 rfl (by decide +kernel)
theorem kw_1488 : Cond.methodLink RX3 274 yX3_ofFree ∈ kBIG := kb_c6 232 rfl (by decide +kernel)
theorem kw_1489 : Cond.methodLink RX3 277 yX3_length ∈ kBIG := kb_c6 233 rfl (by decide +kernel)
theorem kw_1490 : Cond.methodLink RX3 280 yX3_crowd ∈ kBIG := kb_c6 234 rfl (by decide +kernel)
theorem kw_1491 : Cond.methodLink RX3 283 yX3_house ∈ kBIG := kb_c6 235 rfl (by decide +kernel)
theorem kw_1492 : Cond.methodLink RX3 286 yX3_isSound ∈ kBIG := kb_c6 236 rfl (by decide +kernel)
theorem kv_J4_append_15ec4 : kVt yJ4_append_15ec4 cJ4_append_15ec4 2 (some (.object "java/lang/StringBuilder")) 1 := ⟨kb_c4 108 rfl (by decide +kernel), kb_c4 106 rfl (by decide +kernel), kb_c4 107 rfl (by decide +kernel), kb_c1 12 rfl (by decide +kernel), by decide +kernel, by decide +kernel, pd_43⟩
theorem kv_X3_added : kVt yX3_added cX3_added 8 (some .long) 4 := ⟨kb_c6 228 rfl (by decide +kernel), kb_c6 227 rfl (by decide +kernel), kb_in 55 (by decide +kernel), kb_c1 3 rfl (by decide +kernel), by decide +kernel, by decide +kernel, pd_44⟩
theorem kv_X3_areApart : kVt yX3_areApart cX3_areApart 4 (some .boolean) 1 := ⟨kb_c6 150 rfl (by decide +kernel), kb_c6 149 rfl (by decide +kernel), kb_in 47 (by decide +kernel), kb_c1 3 rfl (by decide +kernel), by decide +kernel, by decide +kernel, pd_25⟩
theorem kv_X3_areLet : kSt yX3_areLet cX3_areLet 5 (some .boolean) 3 := ⟨kb_c5 172 rfl (by decide +kernel), kb_c5 171 rfl (by decide +kernel), kb_c1 3 rfl (by decide +kernel), by decide +kernel, by decide +kernel, pd_45⟩
theorem kv_X3_areNone : kVt yX3_areNone cX3_areNone 3 (some .boolean) 2 := ⟨kb_c6 44 rfl (by decide +kernel), kb_c6 43 rfl (by decide +kernel), kb_in 42 (by decide +kernel), kb_c1 3 rfl (by decide +kernel), by decide +kernel, by decide +kernel, pd_22⟩
theorem kv_X3_areSpans : kVt yX3_areSpans cX3_areSpans 3 (some .boolean) 0 := ⟨kb_c6 213 rfl (by decide +kernel), kb_c6 212 rfl (by decide +kernel), kb_in 54 (by decide +kernel), kb_c1 3 rfl (by decide +kernel), by decide +kernel, by decide +kernel, pd_10⟩
theorem kv_X3_at : kVt yX3_at cX3_at 2 (some .int) 1 := ⟨kb_c6 87 rfl (by decide +kernel), kb_c6 85 rfl (by decide +kernel), kb_c6 86 rfl (by decide +kernel), kb_c1 3 rfl (by decide +kernel), by decide +kernel, by decide +kernel, pd_11⟩
theorem kv_X3_calendar : kVt yX3_calendar cX3_calendar 2 (some .int) 1 := ⟨kb_c6 67 rfl (by decide +kernel), kb_c6 65 rfl (by decide +kernel), kb_c6 66 rfl (by decide +kernel), kb_c1 3 rfl (by decide +kernel), by decide +kernel, by decide +kernel, pd_11⟩
theorem kv_X3_chosenNow : kVt yX3_chosenNow cX3_chosenNow 4 (some .int) 0 := ⟨kb_c6 162 rfl (by decide +kernel), kb_c6 161 rfl (by decide +kernel), kb_in 49 (by decide +kernel), kb_c1 3 rfl (by decide +kernel), by decide +kernel, by decide +kernel, pd_2⟩
theorem kv_X3_clashes : kVt yX3_clashes cX3_clashes 4 (some .int) 0 := ⟨kb_c6 83 rfl (by decide +kernel), kb_c6 81 rfl (by decide +kernel), kb_c6 82 rfl (by decide +kernel), kb_c1 3 rfl (by decide +kernel), by decide +kernel, by decide +kernel, pd_2⟩
theorem kv_X3_come : kVt yX3_come cX3_come 6 (some .int) 3 := ⟨kb_c5 202 rfl (by decide +kernel), kb_c5 201 rfl (by decide +kernel), kb_in 37 (by decide +kernel), kb_c1 3 rfl (by decide +kernel), by decide +kernel, by decide +kernel, pd_19⟩
theorem kv_X3_crowd : kVt yX3_crowd cX3_crowd 1 (some .int) 0 := ⟨kb_c6 177 rfl (by decide +kernel), kb_c6 175 rfl (by decide +kernel), kb_c6 176 rfl (by decide +kernel), kb_c1 3 rfl (by decide +kernel), by decide +kernel, by decide +kernel, pd_2⟩
theorem kv_X3_deepest : kSt yX3_deepest cX3_deepest 7 (some .int) 3 := ⟨kb_c6 98 rfl (by decide +kernel), kb_c6 97 rfl (by decide +kernel), kb_c1 3 rfl (by decide +kernel), by decide +kernel, by decide +kernel, pd_46⟩
theorem kv_X3_deepest_ : kVt yX3_deepest_ cX3_deepest_ 1 (some .int) 0 := ⟨kb_c6 95 rfl (by decide +kernel), kb_c6 93 rfl (by decide +kernel), kb_c6 94 rfl (by decide +kernel), kb_c1 3 rfl (by decide +kernel), by decide +kernel, by decide +kernel, pd_2⟩
theorem kv_X3_done : kVt yX3_done cX3_done 2 (some .int) 1 := ⟨kb_c5 135 rfl (by decide +kernel), kb_c5 134 rfl (by decide +kernel), kb_in 32 (by decide +kernel), kb_c1 3 rfl (by decide +kernel), by decide +kernel, by decide +kernel, pd_11⟩
theorem kv_X3_fits : kVt yX3_fits cX3_fits 5 (some .boolean) 2 := ⟨kb_c5 234 rfl (by decide +kernel), kb_c5 233 rfl (by decide +kernel), kb_in 39 (by decide +kernel), kb_c1 3 rfl (by decide +kernel), by decide +kernel, by decide +kernel, pd_33⟩
theorem kv_X3_free : kVt yX3_free cX3_free 7 (some (.array .long)) 0 := ⟨kb_c6 111 rfl (by decide +kernel), kb_c6 110 rfl (by decide +kernel), kb_in 44 (by decide +kernel), kb_c1 3 rfl (by decide +kernel), by decide +kernel, by decide +kernel, pd_47⟩
theorem kv_X3_freeAt : kVt yX3_freeAt cX3_freeAt 4 (some .int) 1 := ⟨kb_c6 122 rfl (by decide +kernel), kb_c6 120 rfl (by decide +kernel), kb_c6 121 rfl (by decide +kernel), kb_c1 3 rfl (by decide +kernel), by decide +kernel, by decide +kernel, pd_11⟩
theorem kv_X3_freeLength : kVt yX3_freeLength cX3_freeLength 5 (some .long) 0 := ⟨kb_c6 134 rfl (by decide +kernel), kb_c6 133 rfl (by decide +kernel), kb_in 46 (by decide +kernel), kb_c1 3 rfl (by decide +kernel), by decide +kernel, by decide +kernel, pd_32⟩
theorem kv_X3_frees : kVt yX3_frees cX3_frees 1 (some .int) 0 := ⟨kb_c6 107 rfl (by decide +kernel), kb_c6 105 rfl (by decide +kernel), kb_c6 106 rfl (by decide +kernel), kb_c1 3 rfl (by decide +kernel), by decide +kernel, by decide +kernel, pd_2⟩
theorem kv_X3_freesOf : kSt yX3_freesOf cX3_freesOf 2 (some .int) 1 := ⟨kb_c6 114 rfl (by decide +kernel), kb_c6 113 rfl (by decide +kernel), kb_c1 3 rfl (by decide +kernel), by decide +kernel, by decide +kernel, pd_48⟩
theorem kv_X3_gone : kVt yX3_gone cX3_gone 3 none 1 := ⟨kb_c6 10 rfl (by decide +kernel), kb_c6 9 rfl (by decide +kernel), kb_in 41 (by decide +kernel), kb_c1 3 rfl (by decide +kernel), by decide +kernel, by decide +kernel, pd_7⟩
theorem kv_X3_half : kSt yX3_half cX3_half 3 (some .int) 2 := ⟨kb_c6 63 rfl (by decide +kernel), kb_c6 62 rfl (by decide +kernel), kb_c1 3 rfl (by decide +kernel), by decide +kernel, by decide +kernel, pd_28⟩
theorem kv_X3_house : kVt yX3_house cX3_house 2 (some .int) 1 := ⟨kb_c6 201 rfl (by decide +kernel), kb_c6 199 rfl (by decide +kernel), kb_c6 200 rfl (by decide +kernel), kb_c1 3 rfl (by decide +kernel), by decide +kernel, by decide +kernel, pd_11⟩
theorem kv_X3_is : kSt yX3_is cX3_is 1 (some .boolean) 1 := ⟨kb_c5 109 rfl (by decide +kernel), kb_c5 108 rfl (by decide +kernel), kb_c1 3 rfl (by decide +kernel), by decide +kernel, by decide +kernel, pd_25⟩
theorem kv_X3_isIn : kVt yX3_isIn cX3_isIn 5 (some .boolean) 2 := ⟨kb_c5 191 rfl (by decide +kernel), kb_c5 190 rfl (by decide +kernel), kb_in 35 (by decide +kernel), kb_c1 3 rfl (by decide +kernel), by decide +kernel, by decide +kernel, pd_33⟩
theorem kv_X3_isLet : kSt yX3_isLet cX3_isLet 2 (some .boolean) 1 := ⟨kb_c5 121 rfl (by decide +kernel), kb_c5 120 rfl (by decide +kernel), kb_c1 3 rfl (by decide +kernel), by decide +kernel, by decide +kernel, pd_26⟩
theorem kv_X3_isNoUnit : kSt yX3_isNoUnit cX3_isNoUnit 2 (some .boolean) 2 := ⟨kb_c5 142 rfl (by decide +kernel), kb_c5 141 rfl (by decide +kernel), kb_c1 3 rfl (by decide +kernel), by decide +kernel, by decide +kernel, pd_22⟩
theorem kv_X3_isSound : kVt yX3_isSound cX3_isSound 2 (some .boolean) 0 := ⟨kb_c6 209 rfl (by decide +kernel), kb_c6 207 rfl (by decide +kernel), kb_c6 208 rfl (by decide +kernel), kb_c1 3 rfl (by decide +kernel), by decide +kernel, by decide +kernel, pd_10⟩
theorem kv_X3_isSpan : kVt yX3_isSpan cX3_isSpan 2 (some .boolean) 1 := ⟨kb_c5 210 rfl (by decide +kernel), kb_c5 209 rfl (by decide +kernel), kb_in 38 (by decide +kernel), kb_c1 3 rfl (by decide +kernel), by decide +kernel, by decide +kernel, pd_25⟩
theorem kv_X3_isThrown : kVt yX3_isThrown cX3_isThrown 3 (some .boolean) 2 := ⟨kb_c5 117 rfl (by decide +kernel), kb_c5 116 rfl (by decide +kernel), kb_in 30 (by decide +kernel), kb_c1 3 rfl (by decide +kernel), by decide +kernel, by decide +kernel, pd_49⟩
theorem kv_X3_isThrown_ : kVt yX3_isThrown_ cX3_isThrown_ 2 (some .boolean) 1 := ⟨kb_c5 157 rfl (by decide +kernel), kb_c5 156 rfl (by decide +kernel), kb_in 33 (by decide +kernel), kb_c1 3 rfl (by decide +kernel), by decide +kernel, by decide +kernel, pd_50⟩
theorem kv_X3_isWish : kVt yX3_isWish cX3_isWish 2 (some .boolean) 1 := ⟨kb_c6 6 rfl (by decide +kernel), kb_c6 5 rfl (by decide +kernel), kb_in 40 (by decide +kernel), kb_c1 3 rfl (by decide +kernel), by decide +kernel, by decide +kernel, pd_25⟩
theorem kv_X3_length : kVt yX3_length cX3_length 2 (some .int) 1 := ⟨kb_c6 126 rfl (by decide +kernel), kb_c6 124 rfl (by decide +kernel), kb_c6 125 rfl (by decide +kernel), kb_c1 3 rfl (by decide +kernel), by decide +kernel, by decide +kernel, pd_11⟩
theorem kv_X3_less : kSt yX3_less cX3_less 6 (some .int) 3 := ⟨kb_c5 221 rfl (by decide +kernel), kb_c5 220 rfl (by decide +kernel), kb_c1 3 rfl (by decide +kernel), by decide +kernel, by decide +kernel, pd_51⟩
theorem kv_X3_mayCome : kVt yX3_mayCome cX3_mayCome 6 (some .boolean) 3 := ⟨kb_c5 187 rfl (by decide +kernel), kb_c5 186 rfl (by decide +kernel), kb_in 34 (by decide +kernel), kb_c1 3 rfl (by decide +kernel), by decide +kernel, by decide +kernel, pd_52⟩
theorem kv_X3_meet : kSt yX3_meet cX3_meet 8 (some .boolean) 4 := ⟨kb_c5 198 rfl (by decide +kernel), kb_c5 197 rfl (by decide +kernel), kb_c1 3 rfl (by decide +kernel), by decide +kernel, by decide +kernel, pd_53⟩
theorem kv_X3_meetsSome : kVt yX3_meetsSome cX3_meetsSome 7 (some .boolean) 3 := ⟨kb_c5 195 rfl (by decide +kernel), kb_c5 194 rfl (by decide +kernel), kb_in 36 (by decide +kernel), kb_c1 3 rfl (by decide +kernel), by decide +kernel, by decide +kernel, pd_54⟩
theorem kv_X3_mostOfAll : kVt yX3_mostOfAll cX3_mostOfAll 3 (some .int) 0 := ⟨kb_c6 173 rfl (by decide +kernel), kb_c6 172 rfl (by decide +kernel), kb_in 50 (by decide +kernel), kb_c1 3 rfl (by decide +kernel), by decide +kernel, by decide +kernel, pd_2⟩
theorem kv_X3_nano : kVt yX3_nano cX3_nano 2 (some .int) 1 := ⟨kb_c6 22 rfl (by decide +kernel), kb_c6 20 rfl (by decide +kernel), kb_c6 21 rfl (by decide +kernel), kb_c1 3 rfl (by decide +kernel), by decide +kernel, by decide +kernel, pd_11⟩
theorem kv_X3_nanoOf : kSt yX3_nanoOf cX3_nanoOf 2 (some .int) 1 := ⟨kb_c6 25 rfl (by decide +kernel), kb_c6 24 rfl (by decide +kernel), kb_c1 3 rfl (by decide +kernel), by decide +kernel, by decide +kernel, pd_21⟩
theorem kv_X3_nextWish : kVt yX3_nextWish cX3_nextWish 4 (some .int) 1 := ⟨kb_c6 189 rfl (by decide +kernel), kb_c6 188 rfl (by decide +kernel), kb_in 52 (by decide +kernel), kb_c1 3 rfl (by decide +kernel), by decide +kernel, by decide +kernel, pd_55⟩
theorem kv_X3_no : kVt yX3_no cX3_no 1 (some .int) 0 := ⟨kb_c5 127 rfl (by decide +kernel), kb_c5 126 rfl (by decide +kernel), kb_in 31 (by decide +kernel), kb_c1 3 rfl (by decide +kernel), by decide +kernel, by decide +kernel, pd_2⟩
theorem kv_X3_ofFree : kVt yX3_ofFree cX3_ofFree 4 (some .int) 2 := ⟨kb_c6 118 rfl (by decide +kernel), kb_c6 116 rfl (by decide +kernel), kb_c6 117 rfl (by decide +kernel), kb_c1 3 rfl (by decide +kernel), by decide +kernel, by decide +kernel, pd_56⟩
theorem kv_X3_ones : kSt yX3_ones cX3_ones 3 (some .int) 1 := ⟨kb_c6 169 rfl (by decide +kernel), kb_c6 168 rfl (by decide +kernel), kb_c1 3 rfl (by decide +kernel), by decide +kernel, by decide +kernel, pd_11⟩
theorem kv_X3_roomsNow : kVt yX3_roomsNow cX3_roomsNow 5 (some (.array .int)) 0 := ⟨kb_c6 185 rfl (by decide +kernel), kb_c6 184 rfl (by decide +kernel), kb_in 51 (by decide +kernel), kb_c1 3 rfl (by decide +kernel), by decide +kernel, by decide +kernel, pd_57⟩
theorem kv_X3_roomsOf : kVt yX3_roomsOf cX3_roomsOf 6 (some .int) 0 := ⟨kb_c6 197 rfl (by decide +kernel), kb_c6 196 rfl (by decide +kernel), kb_in 53 (by decide +kernel), kb_c1 3 rfl (by decide +kernel), by decide +kernel, by decide +kernel, pd_2⟩
theorem kv_X3_second : kVt yX3_second cX3_second 2 (some .int) 1 := ⟨kb_c6 18 rfl (by decide +kernel), kb_c6 16 rfl (by decide +kernel), kb_c6 17 rfl (by decide +kernel), kb_c1 3 rfl (by decide +kernel), by decide +kernel, by decide +kernel, pd_11⟩
theorem kv_X3_secondOf : kSt yX3_secondOf cX3_secondOf 2 (some .int) 1 := ⟨kb_c5 130 rfl (by decide +kernel), kb_c5 129 rfl (by decide +kernel), kb_c1 3 rfl (by decide +kernel), by decide +kernel, by decide +kernel, pd_21⟩
theorem kv_X3_shifted : kSt yX3_shifted cX3_shifted 5 (some (.array .long)) 2 := ⟨kb_c5 175 rfl (by decide +kernel), kb_c5 174 rfl (by decide +kernel), kb_c1 3 rfl (by decide +kernel), by decide +kernel, by decide +kernel, pd_58⟩
theorem kv_X3_sign : kSt yX3_sign cX3_sign 2 (some .int) 1 := ⟨kb_c5 149 rfl (by decide +kernel), kb_c5 148 rfl (by decide +kernel), kb_c1 3 rfl (by decide +kernel), by decide +kernel, by decide +kernel, pd_21⟩
theorem kv_X3_spanAt : kVt yX3_spanAt cX3_spanAt 4 (some .int) 1 := ⟨kb_c6 91 rfl (by decide +kernel), kb_c6 90 rfl (by decide +kernel), kb_in 43 (by decide +kernel), kb_c1 3 rfl (by decide +kernel), by decide +kernel, by decide +kernel, pd_21⟩
theorem kv_X3_takenLength : kVt yX3_takenLength cX3_takenLength 9 (some .long) 0 := ⟨kb_c6 130 rfl (by decide +kernel), kb_c6 129 rfl (by decide +kernel), kb_in 45 (by decide +kernel), kb_c1 3 rfl (by decide +kernel), by decide +kernel, by decide +kernel, pd_32⟩
theorem kv_X3_units : kSt yX3_units cX3_units 2 (some .long) 2 := ⟨kb_c5 145 rfl (by decide +kernel), kb_c5 144 rfl (by decide +kernel), kb_c1 3 rfl (by decide +kernel), by decide +kernel, by decide +kernel, pd_35⟩
theorem kv_X3_wishesMeet : kVt yX3_wishesMeet cX3_wishesMeet 3 (some .boolean) 2 := ⟨kb_c6 154 rfl (by decide +kernel), kb_c6 153 rfl (by decide +kernel), kb_in 48 (by decide +kernel), kb_c1 3 rfl (by decide +kernel), by decide +kernel, by decide +kernel, pd_22⟩
