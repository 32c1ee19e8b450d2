theorem pd_0 : (parseMethodDescriptor "()B").map (fun d => d.parameters.length) = some 0 := by decide +kernel
theorem pd_1 : (parseMethodDescriptor "([BIB)V").map (fun d => d.parameters.length) = some 3 := by decide +kernel
theorem pd_2 : (parseMethodDescriptor "()I").map (fun d => d.parameters.length) = some 0 := by decide +kernel
theorem pd_3 : (parseMethodDescriptor "(C)Z").map (fun d => d.parameters.length) = some 1 := by decide +kernel
theorem pd_4 : (parseMethodDescriptor "(I)Ljava/lang/StringBuilder;").map (fun d => d.parameters.length) = some 1 := by decide +kernel
theorem pd_5 : (parseMethodDescriptor "(C)Ljava/lang/StringBuilder;").map (fun d => d.parameters.length) = some 1 := by decide +kernel
theorem pd_6 : (parseMethodDescriptor "()Ljava/lang/String;").map (fun d => d.parameters.length) = some 0 := by decide +kernel
theorem pd_7 : (parseMethodDescriptor "(I)V").map (fun d => d.parameters.length) = some 1 := by decide +kernel
theorem pd_8 : (parseMethodDescriptor "()[B").map (fun d => d.parameters.length) = some 0 := by decide +kernel
theorem pd_9 : (parseMethodDescriptor "(Ljava/lang/String;)V").map (fun d => d.parameters.length) = some 1 := by decide +kernel
theorem pd_10 : (parseMethodDescriptor "()Z").map (fun d => d.parameters.length) = some 0 := by decide +kernel
theorem pd_11 : (parseMethodDescriptor "(I)I").map (fun d => d.parameters.length) = some 1 := by decide +kernel
theorem pd_12 : (parseMethodDescriptor "(ILjava/lang/String;)V").map (fun d => d.parameters.length) = some 2 := by decide +kernel
theorem pd_13 : (parseMethodDescriptor "(II[B)I").map (fun d => d.parameters.length) = some 3 := by decide +kernel
theorem pd_14 : (parseMethodDescriptor "(II)V").map (fun d => d.parameters.length) = some 2 := by decide +kernel
theorem pd_15 : (parseMethodDescriptor "([BII)[B").map (fun d => d.parameters.length) = some 3 := by decide +kernel
theorem pd_16 : (parseMethodDescriptor "([BI)[B").map (fun d => d.parameters.length) = some 2 := by decide +kernel
theorem pd_17 : (parseMethodDescriptor "(III)I").map (fun d => d.parameters.length) = some 3 := by decide +kernel
theorem pd_18 : (parseMethodDescriptor "(JJ)J").map (fun d => d.parameters.length) = some 2 := by decide +kernel
theorem pd_19 : (parseMethodDescriptor "(JJZ)I").map (fun d => d.parameters.length) = some 3 := by decide +kernel
theorem pd_20 : (parseMethodDescriptor "(I)J").map (fun d => d.parameters.length) = some 1 := by decide +kernel
theorem pd_21 : (parseMethodDescriptor "(J)I").map (fun d => d.parameters.length) = some 1 := by decide +kernel
theorem pd_22 : (parseMethodDescriptor "(II)Z").map (fun d => d.parameters.length) = some 2 := by decide +kernel
theorem pd_23 : (parseMethodDescriptor "(JJI)I").map (fun d => d.parameters.length) = some 3 := by decide +kernel
theorem pd_24 : (parseMethodDescriptor "(J)V").map (fun d => d.parameters.length) = some 1 := by decide +kernel
theorem pd_25 : (parseMethodDescriptor "(I)Z").map (fun d => d.parameters.length) = some 1 := by decide +kernel
theorem pd_26 : (parseMethodDescriptor "(J)Z").map (fun d => d.parameters.length) = some 1 := by decide +kernel
theorem pd_27 : (parseMethodDescriptor "(IJJ)V").map (fun d => d.parameters.length) = some 3 := by decide +kernel
theorem pd_28 : (parseMethodDescriptor "(JI)I").map (fun d => d.parameters.length) = some 2 := by decide +kernel
theorem pd_29 : (parseMethodDescriptor "(IJJ)Z").map (fun d => d.parameters.length) = some 3 := by decide +kernel
theorem pd_30 : (parseMethodDescriptor "()V").map (fun d => d.parameters.length) = some 0 := by decide +kernel
theorem pd_31 : (parseMethodDescriptor "(J)J").map (fun d => d.parameters.length) = some 1 := by decide +kernel
theorem pd_32 : (parseMethodDescriptor "()J").map (fun d => d.parameters.length) = some 0 := by decide +kernel
theorem pd_33 : (parseMethodDescriptor "(JJ)Z").map (fun d => d.parameters.length) = some 2 := by decide +kernel
theorem pd_34 : (parseMethodDescriptor "(III)Z").map (fun d => d.parameters.length) = some 3 := by decide +kernel
theorem pd_35 : (parseMethodDescriptor "(II)J").map (fun d => d.parameters.length) = some 2 := by decide +kernel
theorem pd_36 : (parseMethodDescriptor "(JI)J").map (fun d => d.parameters.length) = some 2 := by decide +kernel
theorem pd_37 : (parseMethodDescriptor "(JLSpanbooker$Row;I)J").map (fun d => d.parameters.length) = some 3 := by decide +kernel
theorem pd_38 : (parseMethodDescriptor "(LSpanbooker$Row;I)V").map (fun d => d.parameters.length) = some 2 := by decide +kernel
theorem pd_39 : (parseMethodDescriptor "(Z)V").map (fun d => d.parameters.length) = some 1 := by decide +kernel
theorem pd_40 : (parseMethodDescriptor "(III)V").map (fun d => d.parameters.length) = some 3 := by decide +kernel
theorem pd_41 : (parseMethodDescriptor "(LSpanbooker$Row;II)I").map (fun d => d.parameters.length) = some 3 := by decide +kernel
theorem pd_42 : (parseMethodDescriptor "(JJ)I").map (fun d => d.parameters.length) = some 2 := by decide +kernel
theorem kw_58 : Cond.initialized RX0 ∈ kBIG := kb_c1 2 rfl (by decide +kernel)
theorem kw_64 : Cond.initialized "java/lang/IndexOutOfBoundsException" ∈ kBIG := kb_c1 8 rfl (by decide +kernel)
theorem kw_65 : Cond.initialized "java/lang/IllegalArgumentException" ∈ kBIG := kb_c1 9 rfl (by decide +kernel)
theorem kw_66 : Cond.initialized "java/lang/Math" ∈ kBIG := kb_c1 10 rfl (by decide +kernel)
theorem kw_68 : Cond.initialized RJ4 ∈ kBIG := kb_c1 12 rfl (by decide +kernel)
theorem kw_69 : Cond.initialized RJ0 ∈ kBIG := kb_c1 13 rfl (by decide +kernel)
theorem kw_74 : Cond.initialized "java/lang/System" ∈ kBIG := kb_c1 18 rfl (by decide +kernel)
theorem kw_82 : Cond.methodLink RX1 3 objectInit ∈ kBIG := kb_c1 26 rfl (by decide +kernel)
theorem kw_83 : Cond.instanceMethod objectInit ∈ kBIG := kb_c1 27 rfl (by decide +kernel)
theorem kw_84 : Cond.code objectInit ⟨#[0xb1]⟩ 1 none ∈ kBIG := kb_c1 28 rfl (by decide +kernel)
theorem kw_85 : Cond.constantLong RX1 17 (86400000000000) ∈ kBIG := kb_c1 29 rfl (by decide +kernel)
theorem kw_86 : Cond.classLink RX1 22 RX0 ∈ kBIG := kb_c1 30 rfl (by decide +kernel)
theorem kw_87 : Cond.instantiable RX0 4 ∈ kBIG := kb_c1 31 rfl (by decide +kernel)
theorem kw_88 : Cond.methodLink RX1 24 yX0_init ∈ kBIG := kb_c1 32 rfl (by decide +kernel)
theorem kw_91 : Cond.methodLink RX0 3 objectInit ∈ kBIG := kb_c1 35 rfl (by decide +kernel)
theorem kw_92 : Cond.fieldLink RX0 9 "Spanbooker$Row" "begins" "[J" ∈ kBIG := kb_c1 36 rfl (by decide +kernel)
theorem kw_93 : Cond.fieldLink RX0 15 "Spanbooker$Row" "ends" "[J" ∈ kBIG := kb_c1 37 rfl (by decide +kernel)
theorem kw_94 : Cond.fieldLink RX0 18 "Spanbooker$Row" "overs" "[Z" ∈ kBIG := kb_c1 38 rfl (by decide +kernel)
theorem kw_95 : Cond.fieldLink RX0 22 "Spanbooker$Row" "count" "I" ∈ kBIG := kb_c1 39 rfl (by decide +kernel)
theorem kw_105 : Cond.arrayClass .long ∈ kBIG := kb_c1 49 rfl (by decide +kernel)
theorem kw_106 : Cond.arrayClass .boolean ∈ kBIG := kb_c1 50 rfl (by decide +kernel)
theorem kw_107 : Cond.fieldLink RX1 9 "Spanbooker" "cells" "[J" ∈ kBIG := kb_c1 51 rfl (by decide +kernel)
theorem kw_108 : Cond.fieldLink RX1 13 "Spanbooker" "from" "J" ∈ kBIG := kb_c1 52 rfl (by decide +kernel)
theorem kw_109 : Cond.fieldLink RX1 19 "Spanbooker" "until" "J" ∈ kBIG := kb_c1 53 rfl (by decide +kernel)
theorem kw_110 : Cond.fieldLink RX1 25 "Spanbooker" "spanRow" "LSpanbooker$Row;" ∈ kBIG := kb_c1 54 rfl (by decide +kernel)
theorem kw_111 : Cond.fieldLink RX1 29 "Spanbooker" "wishRow" "LSpanbooker$Row;" ∈ kBIG := kb_c1 55 rfl (by decide +kernel)
theorem kw_112 : Cond.fieldLink RX1 32 "Spanbooker" "freeRow" "LSpanbooker$Row;" ∈ kBIG := kb_c1 56 rfl (by decide +kernel)
theorem kw_113 : Cond.fieldLink RX1 35 "Spanbooker" "roomOf" "[I" ∈ kBIG := kb_c1 57 rfl (by decide +kernel)
theorem kw_114 : Cond.fieldLink RX1 224 "Spanbooker" "acts" "I" ∈ kBIG := kb_c1 58 rfl (by decide +kernel)
theorem kw_115 : Cond.fieldLink RX1 228 "Spanbooker" "refusals" "I" ∈ kBIG := kb_c1 59 rfl (by decide +kernel)
theorem kw_116 : Cond.fieldLink RX1 231 "Spanbooker" "knocks" "I" ∈ kBIG := kb_c1 60 rfl (by decide +kernel)
theorem kw_138 : Cond.arrayClass .int ∈ kBIG := kb_c1 82 rfl (by decide +kernel)
theorem kw_143 : Cond.methodLink RX1 99 yX0_clear ∈ kBIG := kb_c1 87 rfl (by decide +kernel)
theorem kw_147 : Cond.methodLink RX1 69 yX1_done ∈ kBIG := kb_c1 91 rfl (by decide +kernel)
theorem kw_155 : Cond.methodLink RX1 96 yX0_count ∈ kBIG := kb_c1 99 rfl (by decide +kernel)
theorem kw_163 : Cond.methodLink RX1 170 yX0_doMeet ∈ kBIG := kb_c1 107 rfl (by decide +kernel)
theorem kw_171 : Cond.methodLink RX1 177 yX0_depth ∈ kBIG := kb_c1 115 rfl (by decide +kernel)
theorem kw_175 : Cond.methodLink RX0 38 Lib.Math.max.name ∈ kBIG := kb_c1 119 rfl (by decide +kernel)
theorem kw_176 : Cond.static Lib.Math.max.name ∈ kBIG := kb_c1 120 rfl (by decide +kernel)
theorem kw_177 : Cond.code Lib.Math.max.name Lib.Math.max.code 2 (some .int) ∈ kBIG := kb_c1 121 rfl (by decide +kernel)
theorem kw_182 : Cond.methodLink RX1 188 yX1_findFrees ∈ kBIG := kb_c1 126 rfl (by decide +kernel)
theorem kw_186 : Cond.methodLink RX1 136 yX1_firstWithoutSpan ∈ kBIG := kb_c1 130 rfl (by decide +kernel)
theorem kw_190 : Cond.methodLink RX1 184 yX0_firstMeeting ∈ kBIG := kb_c1 134 rfl (by decide +kernel)
theorem kw_194 : Cond.methodLink RX1 117 yX0_end ∈ kBIG := kb_c1 138 rfl (by decide +kernel)
theorem kw_198 : Cond.methodLink RX0 26 yX0_isIn ∈ kBIG := kb_c1 142 rfl (by decide +kernel)
theorem kw_202 : Cond.methodLink RX1 302 yX1_firstTaken ∈ kBIG := kb_c1 146 rfl (by decide +kernel)
theorem kw_206 : Cond.methodLink RX1 174 yX0_firstWith ∈ kBIG := kb_c1 150 rfl (by decide +kernel)
theorem kw_210 : Cond.methodLink RX0 34 yX0_firstMeeting ∈ kBIG := kb_c1 154 rfl (by decide +kernel)
theorem kw_211 : Cond.methodLink RX1 299 yX0_nextBegin ∈ kBIG := kb_c1 155 rfl (by decide +kernel)
theorem kw_215 : Cond.methodLink RX1 139 yX0_add ∈ kBIG := kb_c1 159 rfl (by decide +kernel)
theorem kw_227 : Cond.methodLink RX1 204 yX1_nextChosen ∈ kBIG := kb_c1 171 rfl (by decide +kernel)
theorem kw_231 : Cond.methodLink RX1 305 yX1_meetsOneOf ∈ kBIG := kb_c1 175 rfl (by decide +kernel)
theorem kw_243 : Cond.methodLink RX1 218 yX1_findRooms ∈ kBIG := kb_c1 187 rfl (by decide +kernel)
theorem kw_247 : Cond.methodLink RX1 308 yX1_firstWithoutRoom ∈ kBIG := kb_c1 191 rfl (by decide +kernel)
theorem kw_251 : Cond.methodLink RX1 113 yX0_begin ∈ kBIG := kb_c1 195 rfl (by decide +kernel)
theorem kw_255 : Cond.methodLink RX1 311 yX1_smallestRoom ∈ kBIG := kb_c1 199 rfl (by decide +kernel)
theorem kw_259 : Cond.methodLink RX1 221 yX1_roomCount ∈ kBIG := kb_c1 203 rfl (by decide +kernel)
theorem kw_263 : Cond.methodLink RX1 314 Lib.Math.max.name ∈ kBIG := kb_c1 207 rfl (by decide +kernel)
theorem kw_272 : Cond.methodLink RX1 234 yX1_isSoundInSpans ∈ kBIG := kb_c1 216 rfl (by decide +kernel)
theorem kw_276 : Cond.methodLink RX1 180 yX1_isInCalendar ∈ kBIG := kb_c1 220 rfl (by decide +kernel)
theorem kw_280 : Cond.methodLink RX1 162 yX0_isOver ∈ kBIG := kb_c1 224 rfl (by decide +kernel)
theorem kw_284 : Cond.methodLink RX1 238 yX1_isSoundInFrees ∈ kBIG := kb_c1 228 rfl (by decide +kernel)
theorem kw_288 : Cond.methodLink RX1 191 yX1_takenLength ∈ kBIG := kb_c1 232 rfl (by decide +kernel)
theorem kw_292 : Cond.methodLink RX1 195 yX1_freeLength ∈ kBIG := kb_c1 236 rfl (by decide +kernel)
theorem kw_296 : Cond.methodLink RX1 241 yX1_isSoundInWishes ∈ kBIG := kb_c2 0 rfl (by decide +kernel)
theorem kw_300 : Cond.methodLink RX1 207 yX1_chosen ∈ kBIG := kb_c2 4 rfl (by decide +kernel)
theorem kw_301 : Cond.methodLink RX1 201 yX1_isWithoutMeeting ∈ kBIG := kb_c2 5 rfl (by decide +kernel)
theorem kw_305 : Cond.methodLink RX1 210 yJ6_bitCount_0f7a4 ∈ kBIG := kb_c2 9 rfl (by decide +kernel)
theorem kw_308 : Cond.constant RJ6 265 (1431655765) ∈ kBIG := kb_c2 12 rfl (by decide +kernel)
theorem kw_309 : Cond.constant RJ6 266 (858993459) ∈ kBIG := kb_c2 13 rfl (by decide +kernel)
theorem kw_310 : Cond.constant RJ6 267 (252645135) ∈ kBIG := kb_c2 14 rfl (by decide +kernel)
theorem kw_311 : Cond.methodLink RX1 215 yX1_mostOfAllSets ∈ kBIG := kb_c2 15 rfl (by decide +kernel)
theorem kw_315 : Cond.methodLink RX1 198 yX1_setOfAllWishes ∈ kBIG := kb_c2 19 rfl (by decide +kernel)
theorem kw_319 : Cond.methodLink RX1 317 yX1_crowd ∈ kBIG := kb_c2 23 rfl (by decide +kernel)
theorem kw_324 : Cond.constantLong RX1 244 (8009) ∈ kBIG := kb_c2 28 rfl (by decide +kernel)
theorem kw_325 : Cond.methodLink RX1 246 yX1_mixCells ∈ kBIG := kb_c2 29 rfl (by decide +kernel)
theorem kw_329 : Cond.methodLink RX1 65 yX1_secondOf ∈ kBIG := kb_c2 33 rfl (by decide +kernel)
theorem kw_332 : Cond.constantLong RX1 55 (1000000000) ∈ kBIG := kb_c2 36 rfl (by decide +kernel)
theorem kw_333 : Cond.methodLink RX1 284 yJ9_floorDiv_f86c9 ∈ kBIG := kb_c2 37 rfl (by decide +kernel)
theorem kw_336 : Cond.methodLink RX1 259 yX1_mix ∈ kBIG := kb_c2 40 rfl (by decide +kernel)
theorem kw_339 : Cond.constantLong RX1 320 (31) ∈ kBIG := kb_c2 43 rfl (by decide +kernel)
theorem kw_340 : Cond.methodLink RX1 142 yX1_nanoOf ∈ kBIG := kb_c2 44 rfl (by decide +kernel)
theorem kw_343 : Cond.methodLink RX1 287 yJ9_floorMod_f86c9 ∈ kBIG := kb_c2 47 rfl (by decide +kernel)
theorem kw_346 : Cond.methodLink RX1 250 yX1_mixSpans ∈ kBIG := kb_c2 50 rfl (by decide +kernel)
theorem kw_350 : Cond.methodLink RX1 322 yX1_calendar ∈ kBIG := kb_c2 54 rfl (by decide +kernel)
theorem kw_354 : Cond.methodLink RX1 45 yX1_isWithin ∈ kBIG := kb_c2 58 rfl (by decide +kernel)
theorem kw_357 : Cond.methodLink RX1 51 yX1_needThat ∈ kBIG := kb_c2 61 rfl (by decide +kernel)
theorem kw_360 : Cond.classLink RX1 275 "java/lang/IllegalArgumentException" ∈ kBIG := kb_c2 64 rfl (by decide +kernel)
theorem kw_426 : Cond.arrayClass .byte ∈ kBIG := kb_c2 130 rfl (by decide +kernel)
theorem kw_427 : Cond.methodLink RX1 159 yX1_partOf ∈ kBIG := kb_c2 131 rfl (by decide +kernel)
theorem kw_430 : Cond.methodLink RX1 325 yX1_mixParts ∈ kBIG := kb_c2 134 rfl (by decide +kernel)
theorem kw_433 : Cond.methodLink RX1 166 yX1_partIn ∈ kBIG := kb_c2 137 rfl (by decide +kernel)
theorem kw_436 : Cond.methodLink RX1 329 yX1_clashes ∈ kBIG := kb_c2 140 rfl (by decide +kernel)
theorem kw_437 : Cond.methodLink RX1 332 yX1_deepest ∈ kBIG := kb_c2 141 rfl (by decide +kernel)
theorem kw_438 : Cond.methodLink RX1 253 yX1_mixFrees ∈ kBIG := kb_c2 142 rfl (by decide +kernel)
theorem kw_442 : Cond.methodLink RX1 335 yX1_length ∈ kBIG := kb_c2 146 rfl (by decide +kernel)
theorem kw_446 : Cond.methodLink RX1 256 yX1_mixWishes ∈ kBIG := kb_c2 150 rfl (by decide +kernel)
theorem kw_450 : Cond.methodLink RX1 263 yX1_isSound ∈ kBIG := kb_c2 154 rfl (by decide +kernel)
theorem kw_456 : Cond.methodLink RX2 1 objectInit ∈ kBIG := kb_c2 160 rfl (by decide +kernel)
theorem kw_473 : Cond.methodLink RX1 39 yX1_needCell ∈ kBIG := kb_c2 177 rfl (by decide +kernel)
theorem kw_476 : Cond.classLink RX1 266 "java/lang/IndexOutOfBoundsException" ∈ kBIG := kb_c2 180 rfl (by decide +kernel)
theorem kw_492 : Cond.constant RX1 43 (-1000000000) ∈ kBIG := kb_c2 196 rfl (by decide +kernel)
theorem kw_493 : Cond.constant RX1 44 (1000000000) ∈ kBIG := kb_c2 197 rfl (by decide +kernel)
theorem kw_494 : Cond.constant RX1 49 (-2000000000) ∈ kBIG := kb_c2 198 rfl (by decide +kernel)
theorem kw_495 : Cond.constant RX1 50 (2000000000) ∈ kBIG := kb_c2 199 rfl (by decide +kernel)
theorem kw_496 : Cond.methodLink RX1 57 yX1_isLet ∈ kBIG := kb_c2 200 rfl (by decide +kernel)
theorem kw_499 : Cond.constantLong RX1 280 (-1000000000000000000) ∈ kBIG := kb_c2 203 rfl (by decide +kernel)
theorem kw_500 : Cond.constantLong RX1 282 (1000000000999999999) ∈ kBIG := kb_c2 204 rfl (by decide +kernel)
theorem kw_501 : Cond.methodLink RX1 61 yX1_refuse ∈ kBIG := kb_c2 205 rfl (by decide +kernel)
theorem kw_512 : Cond.methodLink RX1 73 yX1_needUnits ∈ kBIG := kb_c2 216 rfl (by decide +kernel)
theorem kw_515 : Cond.methodLink RX1 77 yX1_lengthOf ∈ kBIG := kb_c2 219 rfl (by decide +kernel)
theorem kw_518 : Cond.constantLong RX1 290 (1000000) ∈ kBIG := kb_c2 222 rfl (by decide +kernel)
theorem kw_519 : Cond.methodLink RX1 81 yX1_sideOf ∈ kBIG := kb_c2 223 rfl (by decide +kernel)
theorem kw_529 : Cond.methodLink RX1 85 yX1_bring ∈ kBIG := kb_c2 233 rfl (by decide +kernel)
theorem kw_554 : Cond.methodLink RX1 89 yX1_isAllLetAfter ∈ kBIG := kb_c3 18 rfl (by decide +kernel)
theorem kw_558 : Cond.methodLink RX1 292 yX0_isLetAfter ∈ kBIG := kb_c3 22 rfl (by decide +kernel)
theorem kw_563 : Cond.methodLink RX1 92 yX0_goOn ∈ kBIG := kb_c3 27 rfl (by decide +kernel)
theorem kw_581 : Cond.methodLink RX1 102 yX1_addSpan ∈ kBIG := kb_c3 45 rfl (by decide +kernel)
theorem kw_592 : Cond.methodLink RX1 106 yX1_needNumberIn ∈ kBIG := kb_c3 56 rfl (by decide +kernel)
theorem kw_596 : Cond.methodLink RX1 110 yX0_remove ∈ kBIG := kb_c3 60 rfl (by decide +kernel)
theorem kw_607 : Cond.methodLink RX1 120 yX1_changeSpan ∈ kBIG := kb_c3 71 rfl (by decide +kernel)
theorem kw_611 : Cond.methodLink RX1 295 yX0_put ∈ kBIG := kb_c3 75 rfl (by decide +kernel)
theorem kw_615 : Cond.methodLink RX1 124 yX0_beginsBefore ∈ kBIG := kb_c3 79 rfl (by decide +kernel)
theorem kw_626 : Cond.methodLink RX1 127 yX0_endsBefore ∈ kBIG := kb_c3 90 rfl (by decide +kernel)
theorem kw_637 : Cond.methodLink RX1 130 Lib.MathLoose.max_long.x ∈ kBIG := kb_c3 101 rfl (by decide +kernel)
theorem kw_638 : Cond.static Lib.MathLoose.max_long.x ∈ kBIG := kb_c3 102 rfl (by decide +kernel)
theorem kw_639 : Cond.code Lib.MathLoose.max_long.x Lib.MathLoose.max_long.code 4 (some .long) ∈ kBIG := kb_c3 103 rfl (by decide +kernel)
theorem kw_682 : Cond.classLink RX1 145 RJ4 ∈ kBIG := kb_c3 146 rfl (by decide +kernel)
theorem kw_683 : Cond.instantiable RJ4 4 ∈ kBIG := kb_c3 147 rfl (by decide +kernel)
theorem kw_684 : Cond.methodLink RX1 147 yJ4_init_da8c8 ∈ kBIG := kb_c3 148 rfl (by decide +kernel)
theorem kw_687 : Cond.methodLink RJ4 1 yJ5_init_d00df ∈ kBIG := kb_c3 151 rfl (by decide +kernel)
theorem kw_690 : Cond.methodLink RJ5 3 objectInit ∈ kBIG := kb_c3 154 rfl (by decide +kernel)
theorem kw_691 : Cond.fieldLink RJ5 18 "java/lang/String" "COMPACT_STRINGS" "Z" ∈ kBIG := kb_c3 155 rfl (by decide +kernel)
theorem kw_700 : Cond.fieldLink RJ5 15 "java/lang/AbstractStringBuilder" "value" "[B" ∈ kBIG := kb_c3 164 rfl (by decide +kernel)
theorem kw_701 : Cond.fieldLink RJ5 22 "java/lang/AbstractStringBuilder" "coder" "B" ∈ kBIG := kb_c3 165 rfl (by decide +kernel)
theorem kw_702 : Cond.fieldLink RJ0 1048 "java/lang/AbstractStringBuilder" "maybeLatin1" "Z" ∈ kBIG := kb_c3 166 rfl (by decide +kernel)
theorem kw_703 : Cond.fieldLink RJ5 79 "java/lang/AbstractStringBuilder" "count" "I" ∈ kBIG := kb_c3 167 rfl (by decide +kernel)
theorem kw_713 : Cond.methodLink RX1 148 yJ4_append_bf812 ∈ kBIG := kb_c3 177 rfl (by decide +kernel)
theorem kw_717 : Cond.methodLink RJ4 53 yJ5_append_c97b9 ∈ kBIG := kb_c3 181 rfl (by decide +kernel)
theorem kw_720 : Cond.methodLink RJ5 245 yJ6_stringSize_0f7a4 ∈ kBIG := kb_c3 184 rfl (by decide +kernel)
theorem kw_723 : Cond.methodLink RJ5 100 yJ5_ensureCapacityInternal_d00df ∈ kBIG := kb_c3 187 rfl (by decide +kernel)
theorem kw_727 : Cond.methodLink RJ5 104 yJ5_newCapacity_0f7a4 ∈ kBIG := kb_c3 191 rfl (by decide +kernel)
theorem kw_731 : Cond.methodLink RJ5 114 yJ8_newLength_cabcc ∈ kBIG := kb_c3 195 rfl (by decide +kernel)
theorem kw_734 : Cond.methodLink RJ8 194 Lib.Math.max.name ∈ kBIG := kb_c3 198 rfl (by decide +kernel)
theorem kw_735 : Cond.constant RJ8 200 (2147483639) ∈ kBIG := kb_c3 199 rfl (by decide +kernel)
theorem kw_739 : Cond.constant RJ5 39 (2147483647) ∈ kBIG := kb_c3 203 rfl (by decide +kernel)
theorem kw_740 : Cond.methodLink RJ5 108 yJ7_copyOf_9075b ∈ kBIG := kb_c3 204 rfl (by decide +kernel)
theorem kw_743 : Cond.methodLink RJ7 310 kBclone ∈ kBIG := kb_c3 207 rfl (by decide +kernel)
theorem kw_744 : Cond.sameMethod "[B" "java/lang/Object" "clone" "()Ljava/lang/Object;" ∈ kBIG := kb_c3 208 rfl (by decide +kernel)
theorem kw_745 : Cond.native kOclone ∈ kBIG := kb_c3 209 rfl (by decide +kernel)
theorem kw_746 : Cond.instanceMethod kOclone ∈ kBIG := kb_c3 210 rfl (by decide +kernel)
theorem kw_747 : Cond.selects "[B" kBclone kOclone ∈ kBIG := kb_c3 211 rfl (by decide +kernel)
theorem kw_749 : Cond.classLink RJ7 311 "[B" ∈ kBIG := kb_c3 213 rfl (by decide +kernel)
theorem kw_750 : Cond.methodLink RJ7 304 Lib.Math.min.name ∈ kBIG := kb_c3 214 rfl (by decide +kernel)
theorem kw_751 : Cond.static Lib.Math.min.name ∈ kBIG := kb_c3 215 rfl (by decide +kernel)
theorem kw_752 : Cond.code Lib.Math.min.name Lib.Math.min.code 2 (some .int) ∈ kBIG := kb_c3 216 rfl (by decide +kernel)
theorem kw_753 : Cond.methodLink RJ7 150 arraycopyName ∈ kBIG := kb_c3 217 rfl (by decide +kernel)
theorem kw_754 : Cond.static arraycopyName ∈ kBIG := kb_c3 218 rfl (by decide +kernel)
theorem kw_755 : Cond.native arraycopyName ∈ kBIG := kb_c3 219 rfl (by decide +kernel)
theorem kw_756 : Cond.methodLink RJ5 83 yJ5_isLatin1_aae02 ∈ kBIG := kb_c3 220 rfl (by decide +kernel)
theorem kw_761 : Cond.methodLink RJ5 248 yJ6_getChars_ba4f3 ∈ kBIG := kb_c3 225 rfl (by decide +kernel)
theorem kw_764 : Cond.fieldLink RJ6 83 "java/lang/Integer" "DigitOnes" "[B" ∈ kBIG := kb_c3 228 rfl (by decide +kernel)
theorem kw_766 : Cond.fieldLink RJ6 87 "java/lang/Integer" "DigitTens" "[B" ∈ kBIG := kb_c3 230 rfl (by decide +kernel)
theorem kw_799 : Cond.methodLink RX1 152 yJ4_append_cf468 ∈ kBIG := kb_c4 23 rfl (by decide +kernel)
theorem kw_803 : Cond.methodLink RJ4 50 yJ5_append_3fe6f ∈ kBIG := kb_c4 27 rfl (by decide +kernel)
theorem kw_806 : Cond.methodLink RJ5 191 yJ1_canEncode_fc78d ∈ kBIG := kb_c4 30 rfl (by decide +kernel)
theorem kw_840 : Cond.methodLink RX1 155 yJ4_toString_0e30d ∈ kBIG := kb_c4 64 rfl (by decide +kernel)
theorem kw_844 : Cond.classLink RJ4 18 RJ0 ∈ kBIG := kb_c4 68 rfl (by decide +kernel)
theorem kw_845 : Cond.instantiable RJ0 4 ∈ kBIG := kb_c4 69 rfl (by decide +kernel)
theorem kw_846 : Cond.methodLink RJ4 137 yJ0_init_81219 ∈ kBIG := kb_c4 70 rfl (by decide +kernel)
theorem kw_849 : Cond.methodLink RJ0 489 yJ0_init_db425 ∈ kBIG := kb_c4 73 rfl (by decide +kernel)
theorem kw_852 : Cond.methodLink RJ0 1 objectInit ∈ kBIG := kb_c4 76 rfl (by decide +kernel)
theorem kw_853 : Cond.methodLink RJ0 552 yJ5_getValue_6d5f1 ∈ kBIG := kb_c4 77 rfl (by decide +kernel)
theorem kw_858 : Cond.methodLink RJ0 549 yJ5_length_8abf5 ∈ kBIG := kb_c4 82 rfl (by decide +kernel)
theorem kw_864 : Cond.methodLink RJ4 343 yJ5_length_8abf5 ∈ kBIG := kb_c4 88 rfl (by decide +kernel)
theorem kw_866 : Cond.methodLink RJ0 1047 yJ5_isLatin1_aae02 ∈ kBIG := kb_c4 90 rfl (by decide +kernel)
theorem kw_867 : Cond.methodLink RJ0 54 yJ7_copyOfRange_39247 ∈ kBIG := kb_c4 91 rfl (by decide +kernel)
theorem kw_870 : Cond.methodLink RJ7 339 yJ7_copyOfRangeByte_39247 ∈ kBIG := kb_c4 94 rfl (by decide +kernel)
theorem kw_873 : Cond.methodLink RJ7 343 yJ7_checkLength_df160 ∈ kBIG := kb_c4 97 rfl (by decide +kernel)
theorem kw_885 : Cond.methodLink RJ4 29 yJ5_append_cf1ce ∈ kBIG := kb_c4 109 rfl (by decide +kernel)
theorem kw_895 : Cond.methodLink RJ5 32 yJ0_length_8abf5 ∈ kBIG := kb_c4 119 rfl (by decide +kernel)
theorem kw_899 : Cond.methodLink RJ0 335 yJ0_coder_7d493 ∈ kBIG := kb_c4 123 rfl (by decide +kernel)
theorem kw_903 : Cond.fieldLink RJ0 38 "java/lang/String" "COMPACT_STRINGS" "Z" ∈ kBIG := kb_c4 127 rfl (by decide +kernel)
theorem kw_904 : Cond.methodLink RJ5 208 yJ5_putStringAt_47b60 ∈ kBIG := kb_c4 128 rfl (by decide +kernel)
theorem kw_908 : Cond.methodLink RJ5 397 yJ5_inflateIfNeededFor_a7421 ∈ kBIG := kb_c4 132 rfl (by decide +kernel)
theorem kw_912 : Cond.methodLink RJ5 40 yJ0_coder_7d493 ∈ kBIG := kb_c4 136 rfl (by decide +kernel)
theorem kw_913 : Cond.methodLink RJ5 399 yJ0_getBytes_840e7 ∈ kBIG := kb_c4 137 rfl (by decide +kernel)
theorem kw_917 : Cond.methodLink RJ0 212 arraycopyName ∈ kBIG := kb_c4 141 rfl (by decide +kernel)
theorem kw_934 : Cond.fieldLink RJ0 9 "java/lang/String" "value" "[B" ∈ kBIG := kb_c4 158 rfl (by decide +kernel)
theorem kw_935 : Cond.fieldLink RJ0 15 "java/lang/String" "coder" "B" ∈ kBIG := kb_c4 159 rfl (by decide +kernel)
theorem ku_J0 : ∀ w ∈ u_ws RJ0 TJ0 4, w ∈ kBIG := kb_all _ [936, 938, 940, 942] (by decide +kernel) (by decide +kernel)
theorem ku_J4 : ∀ w ∈ u_ws RJ4 TJ4 4, w ∈ kBIG := kb_all _ [704, 706, 708, 710] (by decide +kernel) (by decide +kernel)
theorem ku_X0 : ∀ w ∈ u_ws RX0 TX0 4, w ∈ kBIG := kb_all _ [96, 98, 100, 102] (by decide +kernel) (by decide +kernel)
theorem ku_X1 : ∀ w ∈ u_ws RX1 TX1 10, w ∈ kBIG := kb_all _ [117, 119, 121, 123, 125, 127, 129, 131, 133, 135] (by decide +kernel) (by decide +kernel)
theorem ku_X2 : ∀ w ∈ u_ws RX2 TX2 2, w ∈ kBIG := kb_all _ [459, 461] (by decide +kernel) (by decide +kernel)
theorem ku_X3 : ∀ w ∈ u_ws RX3 TX3 14, w ∈ kBIG := kb_all _ [1086, 1088, 1090, 1092, 1094, 1096, 1098, 1100, 1102, 1104, 1106, 1108, 1110, 1112] (by decide +kernel) (by decide +kernel)
theorem kv_J0_coder_7d493 : kVt yJ0_coder_7d493 cJ0_coder_7d493 1 (some .byte) 0 := ⟨kb_c4 126 rfl (by decide +kernel), kb_c4 124 rfl (by decide +kernel), kb_c4 125 rfl (by decide +kernel), kb_c1 13 rfl (by decide +kernel), by decide +kernel, by decide +kernel, pd_0⟩
theorem kv_J0_getBytes_840e7 : kVt yJ0_getBytes_840e7 cJ0_getBytes_840e7 4 none 3 := ⟨kb_c4 140 rfl (by decide +kernel), kb_c4 138 rfl (by decide +kernel), kb_c4 139 rfl (by decide +kernel), kb_c1 13 rfl (by decide +kernel), by decide +kernel, by decide +kernel, pd_1⟩
theorem kv_J0_init_81219 : kIt yJ0_init_81219 cJ0_init_81219 2 1 := ⟨kb_c4 72 rfl (by decide +kernel), kb_c4 71 rfl (by decide +kernel), kb_c1 13 rfl (by decide +kernel), by decide +kernel⟩
theorem kv_J0_init_db425 : kIt yJ0_init_db425 cJ0_init_db425 5 2 := ⟨kb_c4 75 rfl (by decide +kernel), kb_c4 74 rfl (by decide +kernel), kb_c1 13 rfl (by decide +kernel), by decide +kernel⟩
theorem kv_J0_length_8abf5 : kVt yJ0_length_8abf5 cJ0_length_8abf5 1 (some .int) 0 := ⟨kb_c4 122 rfl (by decide +kernel), kb_c4 120 rfl (by decide +kernel), kb_c4 121 rfl (by decide +kernel), kb_c1 13 rfl (by decide +kernel), by decide +kernel, by decide +kernel, pd_2⟩
theorem kv_J1_canEncode_fc78d : kSt yJ1_canEncode_fc78d cJ1_canEncode_fc78d 1 (some .boolean) 1 := ⟨kb_c4 32 rfl (by decide +kernel), kb_c4 31 rfl (by decide +kernel), kb_c1 20 rfl (by decide +kernel), by decide +kernel, by decide +kernel, pd_3⟩
theorem kv_J4_append_bf812 : kVt yJ4_append_bf812 cJ4_append_bf812 2 (some (.object "java/lang/StringBuilder")) 1 := ⟨kb_c3 180 rfl (by decide +kernel), kb_c3 178 rfl (by decide +kernel), kb_c3 179 rfl (by decide +kernel), kb_c1 12 rfl (by decide +kernel), by decide +kernel, by decide +kernel, pd_4⟩
theorem kv_J4_append_cf468 : kVt yJ4_append_cf468 cJ4_append_cf468 2 (some (.object "java/lang/StringBuilder")) 1 := ⟨kb_c4 26 rfl (by decide +kernel), kb_c4 24 rfl (by decide +kernel), kb_c4 25 rfl (by decide +kernel), kb_c1 12 rfl (by decide +kernel), by decide +kernel, by decide +kernel, pd_5⟩
theorem kv_J4_init_da8c8 : kIt yJ4_init_da8c8 cJ4_init_da8c8 1 0 := ⟨kb_c3 150 rfl (by decide +kernel), kb_c3 149 rfl (by decide +kernel), kb_c1 12 rfl (by decide +kernel), by decide +kernel⟩
theorem kv_J4_length_8abf5 : kOt yJ5_length_8abf5 cJ5_length_8abf5 1 (some .int) yJ4_length_8abf5 cJ4_length_8abf5 1 (some .int) 0 := ⟨kb_c4 87 rfl (by decide +kernel), kb_c4 86 rfl (by decide +kernel), kb_c1 12 rfl (by decide +kernel), kb_c4 84 rfl (by decide +kernel), kb_c4 85 rfl (by decide +kernel), kb_c4 83 rfl (by decide +kernel), kb_c4 89 rfl (by decide +kernel), by decide +kernel⟩
theorem kv_J4_toString_0e30d : kVt yJ4_toString_0e30d cJ4_toString_0e30d 1 (some (.object "java/lang/String")) 0 := ⟨kb_c4 67 rfl (by decide +kernel), kb_c4 65 rfl (by decide +kernel), kb_c4 66 rfl (by decide +kernel), kb_c1 12 rfl (by decide +kernel), by decide +kernel, by decide +kernel, pd_6⟩
theorem kv_J5_append_3fe6f : kUs yJ5_append_3fe6f cJ5_append_3fe6f 2 (some (.object "java/lang/AbstractStringBuilder")) 1 := ⟨kb_c4 29 rfl (by decide +kernel), kb_c4 28 rfl (by decide +kernel), kb_c1 11 rfl (by decide +kernel), kb_c7 1 rfl (by decide +kernel), kb_c3 176 rfl (by decide +kernel), by decide +kernel⟩
theorem kv_J5_append_c97b9 : kUs yJ5_append_c97b9 cJ5_append_c97b9 4 (some (.object "java/lang/AbstractStringBuilder")) 1 := ⟨kb_c3 183 rfl (by decide +kernel), kb_c3 182 rfl (by decide +kernel), kb_c1 11 rfl (by decide +kernel), kb_c6 238 rfl (by decide +kernel), kb_c3 176 rfl (by decide +kernel), by decide +kernel⟩
theorem kv_J5_append_cf1ce : kUs yJ5_append_cf1ce cJ5_append_cf1ce 3 (some (.object "java/lang/AbstractStringBuilder")) 1 := ⟨kb_c4 111 rfl (by decide +kernel), kb_c4 110 rfl (by decide +kernel), kb_c1 11 rfl (by decide +kernel), kb_c7 3 rfl (by decide +kernel), kb_c3 176 rfl (by decide +kernel), by decide +kernel⟩
theorem kv_J5_ensureCapacityInternal_d00df : kUt "java/lang/StringBuilder" yJ5_ensureCapacityInternal_d00df cJ5_ensureCapacityInternal_d00df 3 none 1 := ⟨kb_c3 190 rfl (by decide +kernel), kb_c3 189 rfl (by decide +kernel), kb_c1 11 rfl (by decide +kernel), kb_c6 239 rfl (by decide +kernel), kb_pv 0 (by decide +kernel), by decide +kernel, by decide +kernel, pd_7⟩
theorem kv_J5_getValue_6d5f1 : kUt "java/lang/StringBuilder" yJ5_getValue_6d5f1 cJ5_getValue_6d5f1 1 (some (.array .byte)) 0 := ⟨kb_c4 81 rfl (by decide +kernel), kb_c4 78 rfl (by decide +kernel), kb_c1 11 rfl (by decide +kernel), kb_c4 79 rfl (by decide +kernel), kb_c4 80 rfl (by decide +kernel), by decide +kernel, by decide +kernel, pd_8⟩
theorem kv_J5_inflateIfNeededFor_a7421 : kUt "java/lang/StringBuilder" yJ5_inflateIfNeededFor_a7421 cJ5_inflateIfNeededFor_a7421 2 none 1 := ⟨kb_c4 135 rfl (by decide +kernel), kb_c4 134 rfl (by decide +kernel), kb_c1 11 rfl (by decide +kernel), kb_c7 6 rfl (by decide +kernel), kb_pv 3 (by decide +kernel), by decide +kernel, by decide +kernel, pd_9⟩
theorem kv_J5_init_d00df : kIt yJ5_init_d00df cJ5_init_d00df 2 1 := ⟨kb_c3 153 rfl (by decide +kernel), kb_c3 152 rfl (by decide +kernel), kb_c1 11 rfl (by decide +kernel), by decide +kernel⟩
theorem kv_J5_isLatin1_aae02 : kUt "java/lang/StringBuilder" yJ5_isLatin1_aae02 cJ5_isLatin1_aae02 1 (some .boolean) 0 := ⟨kb_c3 224 rfl (by decide +kernel), kb_c3 221 rfl (by decide +kernel), kb_c1 11 rfl (by decide +kernel), kb_c3 222 rfl (by decide +kernel), kb_c3 223 rfl (by decide +kernel), by decide +kernel, by decide +kernel, pd_10⟩
theorem kv_J5_length_8abf5 : kUs yJ5_length_8abf5 cJ5_length_8abf5 1 (some .int) 0 := ⟨kb_c4 89 rfl (by decide +kernel), kb_c4 83 rfl (by decide +kernel), kb_c1 11 rfl (by decide +kernel), kb_c4 84 rfl (by decide +kernel), kb_c3 176 rfl (by decide +kernel), by decide +kernel⟩
theorem kv_J5_newCapacity_0f7a4 : kUt "java/lang/StringBuilder" yJ5_newCapacity_0f7a4 cJ5_newCapacity_0f7a4 6 (some .int) 1 := ⟨kb_c3 194 rfl (by decide +kernel), kb_c3 193 rfl (by decide +kernel), kb_c1 11 rfl (by decide +kernel), kb_c7 0 rfl (by decide +kernel), kb_pv 1 (by decide +kernel), by decide +kernel, by decide +kernel, pd_11⟩
theorem kv_J5_putStringAt_47b60 : kUt "java/lang/StringBuilder" yJ5_putStringAt_47b60 cJ5_putStringAt_47b60 3 none 2 := ⟨kb_c4 131 rfl (by decide +kernel), kb_c4 130 rfl (by decide +kernel), kb_c1 11 rfl (by decide +kernel), kb_c7 5 rfl (by decide +kernel), kb_pv 2 (by decide +kernel), by decide +kernel, by decide +kernel, pd_12⟩
theorem kv_J6_bitCount_0f7a4 : kSt yJ6_bitCount_0f7a4 cJ6_bitCount_0f7a4 1 (some .int) 1 := ⟨kb_c2 11 rfl (by decide +kernel), kb_c2 10 rfl (by decide +kernel), kb_c1 15 rfl (by decide +kernel), by decide +kernel, by decide +kernel, pd_11⟩
theorem kv_J6_getChars_ba4f3 : kSt yJ6_getChars_ba4f3 cJ6_getChars_ba4f3 7 (some .int) 3 := ⟨kb_c3 227 rfl (by decide +kernel), kb_c3 226 rfl (by decide +kernel), kb_c1 15 rfl (by decide +kernel), by decide +kernel, by decide +kernel, pd_13⟩
theorem kv_J6_stringSize_0f7a4 : kSt yJ6_stringSize_0f7a4 cJ6_stringSize_0f7a4 4 (some .int) 1 := ⟨kb_c3 186 rfl (by decide +kernel), kb_c3 185 rfl (by decide +kernel), kb_c1 15 rfl (by decide +kernel), by decide +kernel, by decide +kernel, pd_11⟩
theorem kv_J7_checkLength_df160 : kSt yJ7_checkLength_df160 cJ7_checkLength_df160 2 none 2 := ⟨kb_c4 99 rfl (by decide +kernel), kb_c4 98 rfl (by decide +kernel), kb_c1 17 rfl (by decide +kernel), by decide +kernel, by decide +kernel, pd_14⟩
theorem kv_J7_copyOfRangeByte_39247 : kSt yJ7_copyOfRangeByte_39247 cJ7_copyOfRangeByte_39247 5 (some (.array .byte)) 3 := ⟨kb_c4 96 rfl (by decide +kernel), kb_c4 95 rfl (by decide +kernel), kb_c1 17 rfl (by decide +kernel), by decide +kernel, by decide +kernel, pd_15⟩
theorem kv_J7_copyOfRange_39247 : kSt yJ7_copyOfRange_39247 cJ7_copyOfRange_39247 3 (some (.array .byte)) 3 := ⟨kb_c4 93 rfl (by decide +kernel), kb_c4 92 rfl (by decide +kernel), kb_c1 17 rfl (by decide +kernel), by decide +kernel, by decide +kernel, pd_15⟩
theorem kv_J7_copyOf_9075b : kSt yJ7_copyOf_9075b cJ7_copyOf_9075b 3 (some (.array .byte)) 2 := ⟨kb_c3 206 rfl (by decide +kernel), kb_c3 205 rfl (by decide +kernel), kb_c1 17 rfl (by decide +kernel), by decide +kernel, by decide +kernel, pd_16⟩
theorem kv_J8_newLength_cabcc : kSt yJ8_newLength_cabcc cJ8_newLength_cabcc 4 (some .int) 3 := ⟨kb_c3 197 rfl (by decide +kernel), kb_c3 196 rfl (by decide +kernel), kb_c1 16 rfl (by decide +kernel), by decide +kernel, by decide +kernel, pd_17⟩
theorem kv_J9_floorDiv_f86c9 : kSt yJ9_floorDiv_f86c9 cJ9_floorDiv_f86c9 6 (some .long) 2 := ⟨kb_c2 39 rfl (by decide +kernel), kb_c2 38 rfl (by decide +kernel), kb_c1 10 rfl (by decide +kernel), by decide +kernel, by decide +kernel, pd_18⟩
theorem kv_J9_floorMod_f86c9 : kSt yJ9_floorMod_f86c9 cJ9_floorMod_f86c9 6 (some .long) 2 := ⟨kb_c2 49 rfl (by decide +kernel), kb_c2 48 rfl (by decide +kernel), kb_c1 10 rfl (by decide +kernel), by decide +kernel, by decide +kernel, pd_18⟩
theorem kv_X0_add : kVt yX0_add cX0_add 6 (some .int) 3 := ⟨kb_c1 162 rfl (by decide +kernel), kb_c1 160 rfl (by decide +kernel), kb_c1 161 rfl (by decide +kernel), kb_c1 2 rfl (by decide +kernel), by decide +kernel, by decide +kernel, pd_19⟩
theorem kv_X0_begin : kVt yX0_begin cX0_begin 2 (some .long) 1 := ⟨kb_c1 198 rfl (by decide +kernel), kb_c1 196 rfl (by decide +kernel), kb_c1 197 rfl (by decide +kernel), kb_c1 2 rfl (by decide +kernel), by decide +kernel, by decide +kernel, pd_20⟩
theorem kv_X0_beginsBefore : kVt yX0_beginsBefore cX0_beginsBefore 5 (some .int) 1 := ⟨kb_c3 82 rfl (by decide +kernel), kb_c3 80 rfl (by decide +kernel), kb_c3 81 rfl (by decide +kernel), kb_c1 2 rfl (by decide +kernel), by decide +kernel, by decide +kernel, pd_21⟩
theorem kv_X0_clear : kVt yX0_clear cX0_clear 2 (some .int) 0 := ⟨kb_c1 90 rfl (by decide +kernel), kb_c1 88 rfl (by decide +kernel), kb_c1 89 rfl (by decide +kernel), kb_c1 2 rfl (by decide +kernel), by decide +kernel, by decide +kernel, pd_2⟩
theorem kv_X0_count : kVt yX0_count cX0_count 1 (some .int) 0 := ⟨kb_c1 102 rfl (by decide +kernel), kb_c1 100 rfl (by decide +kernel), kb_c1 101 rfl (by decide +kernel), kb_c1 2 rfl (by decide +kernel), by decide +kernel, by decide +kernel, pd_2⟩
theorem kv_X0_depth : kVt yX0_depth cX0_depth 5 (some .int) 0 := ⟨kb_c1 118 rfl (by decide +kernel), kb_c1 116 rfl (by decide +kernel), kb_c1 117 rfl (by decide +kernel), kb_c1 2 rfl (by decide +kernel), by decide +kernel, by decide +kernel, pd_2⟩
theorem kv_X0_doMeet : kVt yX0_doMeet cX0_doMeet 3 (some .boolean) 2 := ⟨kb_c1 110 rfl (by decide +kernel), kb_c1 108 rfl (by decide +kernel), kb_c1 109 rfl (by decide +kernel), kb_c1 2 rfl (by decide +kernel), by decide +kernel, by decide +kernel, pd_22⟩
theorem kv_X0_end : kVt yX0_end cX0_end 2 (some .long) 1 := ⟨kb_c1 141 rfl (by decide +kernel), kb_c1 139 rfl (by decide +kernel), kb_c1 140 rfl (by decide +kernel), kb_c1 2 rfl (by decide +kernel), by decide +kernel, by decide +kernel, pd_20⟩
theorem kv_X0_endsBefore : kVt yX0_endsBefore cX0_endsBefore 5 (some .int) 1 := ⟨kb_c3 93 rfl (by decide +kernel), kb_c3 91 rfl (by decide +kernel), kb_c3 92 rfl (by decide +kernel), kb_c1 2 rfl (by decide +kernel), by decide +kernel, by decide +kernel, pd_21⟩
theorem kv_X0_firstMeeting : kVt yX0_firstMeeting cX0_firstMeeting 7 (some .int) 3 := ⟨kb_c1 137 rfl (by decide +kernel), kb_c1 135 rfl (by decide +kernel), kb_c1 136 rfl (by decide +kernel), kb_c1 2 rfl (by decide +kernel), by decide +kernel, by decide +kernel, pd_23⟩
theorem kv_X0_firstWith : kVt yX0_firstWith cX0_firstWith 3 (some .int) 1 := ⟨kb_c1 153 rfl (by decide +kernel), kb_c1 151 rfl (by decide +kernel), kb_c1 152 rfl (by decide +kernel), kb_c1 2 rfl (by decide +kernel), by decide +kernel, by decide +kernel, pd_21⟩
theorem kv_X0_goOn : kVt yX0_goOn cX0_goOn 4 none 1 := ⟨kb_c3 30 rfl (by decide +kernel), kb_c3 28 rfl (by decide +kernel), kb_c3 29 rfl (by decide +kernel), kb_c1 2 rfl (by decide +kernel), by decide +kernel, by decide +kernel, pd_24⟩
theorem kv_X0_init : kIt yX0_init cX0_init 1 0 := ⟨kb_c1 34 rfl (by decide +kernel), kb_c1 33 rfl (by decide +kernel), kb_c1 2 rfl (by decide +kernel), by decide +kernel⟩
theorem kv_X0_isIn : kVt yX0_isIn cX0_isIn 2 (some .boolean) 1 := ⟨kb_c1 145 rfl (by decide +kernel), kb_c1 144 rfl (by decide +kernel), kb_in 3 (by decide +kernel), kb_c1 2 rfl (by decide +kernel), by decide +kernel, by decide +kernel, pd_25⟩
theorem kv_X0_isLetAfter : kVt yX0_isLetAfter cX0_isLetAfter 4 (some .boolean) 1 := ⟨kb_c3 25 rfl (by decide +kernel), kb_c3 23 rfl (by decide +kernel), kb_c3 24 rfl (by decide +kernel), kb_c1 2 rfl (by decide +kernel), by decide +kernel, by decide +kernel, pd_26⟩
theorem kv_X0_isOver : kVt yX0_isOver cX0_isOver 2 (some .boolean) 1 := ⟨kb_c1 227 rfl (by decide +kernel), kb_c1 225 rfl (by decide +kernel), kb_c1 226 rfl (by decide +kernel), kb_c1 2 rfl (by decide +kernel), by decide +kernel, by decide +kernel, pd_25⟩
theorem kv_X0_nextBegin : kVt yX0_nextBegin cX0_nextBegin 8 (some .long) 2 := ⟨kb_c1 158 rfl (by decide +kernel), kb_c1 156 rfl (by decide +kernel), kb_c1 157 rfl (by decide +kernel), kb_c1 2 rfl (by decide +kernel), by decide +kernel, by decide +kernel, pd_18⟩
theorem kv_X0_put : kVt yX0_put cX0_put 6 none 3 := ⟨kb_c3 78 rfl (by decide +kernel), kb_c3 76 rfl (by decide +kernel), kb_c3 77 rfl (by decide +kernel), kb_c1 2 rfl (by decide +kernel), by decide +kernel, by decide +kernel, pd_27⟩
theorem kv_X0_remove : kVt yX0_remove cX0_remove 3 (some .int) 1 := ⟨kb_c3 63 rfl (by decide +kernel), kb_c3 61 rfl (by decide +kernel), kb_c3 62 rfl (by decide +kernel), kb_c1 2 rfl (by decide +kernel), by decide +kernel, by decide +kernel, pd_11⟩
theorem kv_X1_addSpan : kVt yX1_addSpan cX1_addSpan 6 (some .int) 3 := ⟨kb_c3 48 rfl (by decide +kernel), kb_c3 47 rfl (by decide +kernel), kb_in 28 (by decide +kernel), kb_c1 1 rfl (by decide +kernel), by decide +kernel, by decide +kernel, pd_19⟩
theorem kv_X1_bring : kVt yX1_bring cX1_bring 5 (some .int) 2 := ⟨kb_c2 236 rfl (by decide +kernel), kb_c2 235 rfl (by decide +kernel), kb_in 26 (by decide +kernel), kb_c1 1 rfl (by decide +kernel), by decide +kernel, by decide +kernel, pd_28⟩
theorem kv_X1_calendar : kVt yX1_calendar cX1_calendar 2 (some .int) 1 := ⟨kb_c2 57 rfl (by decide +kernel), kb_c2 55 rfl (by decide +kernel), kb_c2 56 rfl (by decide +kernel), kb_c1 1 rfl (by decide +kernel), by decide +kernel, by decide +kernel, pd_11⟩
theorem kv_X1_changeSpan : kVt yX1_changeSpan cX1_changeSpan 6 (some .boolean) 3 := ⟨kb_c3 74 rfl (by decide +kernel), kb_c3 73 rfl (by decide +kernel), kb_in 29 (by decide +kernel), kb_c1 1 rfl (by decide +kernel), by decide +kernel, by decide +kernel, pd_29⟩
theorem kv_X1_chosen : kVt yX1_chosen cX1_chosen 4 (some .int) 0 := ⟨kb_c1 170 rfl (by decide +kernel), kb_c1 168 rfl (by decide +kernel), kb_c1 169 rfl (by decide +kernel), kb_c1 1 rfl (by decide +kernel), by decide +kernel, by decide +kernel, pd_2⟩
theorem kv_X1_clashes : kVt yX1_clashes cX1_clashes 4 (some .int) 0 := ⟨kb_c1 106 rfl (by decide +kernel), kb_c1 104 rfl (by decide +kernel), kb_c1 105 rfl (by decide +kernel), kb_c1 1 rfl (by decide +kernel), by decide +kernel, by decide +kernel, pd_2⟩
theorem kv_X1_crowd : kVt yX1_crowd cX1_crowd 1 (some .int) 0 := ⟨kb_c1 182 rfl (by decide +kernel), kb_c1 180 rfl (by decide +kernel), kb_c1 181 rfl (by decide +kernel), kb_c1 1 rfl (by decide +kernel), by decide +kernel, by decide +kernel, pd_2⟩
theorem kv_X1_deepest : kVt yX1_deepest cX1_deepest 1 (some .int) 0 := ⟨kb_c1 114 rfl (by decide +kernel), kb_c1 112 rfl (by decide +kernel), kb_c1 113 rfl (by decide +kernel), kb_c1 1 rfl (by decide +kernel), by decide +kernel, by decide +kernel, pd_2⟩
theorem kv_X1_done : kVt yX1_done cX1_done 2 (some .int) 1 := ⟨kb_c1 94 rfl (by decide +kernel), kb_c1 93 rfl (by decide +kernel), kb_in 0 (by decide +kernel), kb_c1 1 rfl (by decide +kernel), by decide +kernel, by decide +kernel, pd_11⟩
theorem kv_X1_findFrees : kVt yX1_findFrees cX1_findFrees 6 none 0 := ⟨kb_c1 129 rfl (by decide +kernel), kb_c1 128 rfl (by decide +kernel), kb_in 1 (by decide +kernel), kb_c1 1 rfl (by decide +kernel), by decide +kernel, by decide +kernel, pd_30⟩
theorem kv_X1_findRooms : kVt yX1_findRooms cX1_findRooms 3 none 0 := ⟨kb_c1 190 rfl (by decide +kernel), kb_c1 189 rfl (by decide +kernel), kb_in 7 (by decide +kernel), kb_c1 1 rfl (by decide +kernel), by decide +kernel, by decide +kernel, pd_30⟩
theorem kv_X1_firstTaken : kVt yX1_firstTaken cX1_firstTaken 3 (some .long) 1 := ⟨kb_c1 149 rfl (by decide +kernel), kb_c1 148 rfl (by decide +kernel), kb_in 4 (by decide +kernel), kb_c1 1 rfl (by decide +kernel), by decide +kernel, by decide +kernel, pd_31⟩
theorem kv_X1_firstWithoutRoom : kVt yX1_firstWithoutRoom cX1_firstWithoutRoom 3 (some .int) 0 := ⟨kb_c1 194 rfl (by decide +kernel), kb_c1 193 rfl (by decide +kernel), kb_in 8 (by decide +kernel), kb_c1 1 rfl (by decide +kernel), by decide +kernel, by decide +kernel, pd_2⟩
theorem kv_X1_firstWithoutSpan : kVt yX1_firstWithoutSpan cX1_firstWithoutSpan 9 (some .long) 2 := ⟨kb_c1 133 rfl (by decide +kernel), kb_c1 132 rfl (by decide +kernel), kb_in 2 (by decide +kernel), kb_c1 1 rfl (by decide +kernel), by decide +kernel, by decide +kernel, pd_18⟩
theorem kv_X1_freeLength : kVt yX1_freeLength cX1_freeLength 4 (some .long) 0 := ⟨kb_c1 239 rfl (by decide +kernel), kb_c1 238 rfl (by decide +kernel), kb_in 15 (by decide +kernel), kb_c1 1 rfl (by decide +kernel), by decide +kernel, by decide +kernel, pd_32⟩
theorem kv_X1_isAllLetAfter : kVt yX1_isAllLetAfter cX1_isAllLetAfter 4 (some .boolean) 1 := ⟨kb_c3 21 rfl (by decide +kernel), kb_c3 20 rfl (by decide +kernel), kb_in 27 (by decide +kernel), kb_c1 1 rfl (by decide +kernel), by decide +kernel, by decide +kernel, pd_26⟩
theorem kv_X1_isInCalendar : kVt yX1_isInCalendar cX1_isInCalendar 5 (some .boolean) 2 := ⟨kb_c1 223 rfl (by decide +kernel), kb_c1 222 rfl (by decide +kernel), kb_in 12 (by decide +kernel), kb_c1 1 rfl (by decide +kernel), by decide +kernel, by decide +kernel, pd_33⟩
theorem kv_X1_isLet : kSt yX1_isLet cX1_isLet 2 (some .boolean) 1 := ⟨kb_c2 202 rfl (by decide +kernel), kb_c2 201 rfl (by decide +kernel), kb_c1 1 rfl (by decide +kernel), by decide +kernel, by decide +kernel, pd_26⟩
theorem kv_X1_isSound : kVt yX1_isSound cX1_isSound 1 (some .boolean) 0 := ⟨kb_c1 215 rfl (by decide +kernel), kb_c1 213 rfl (by decide +kernel), kb_c1 214 rfl (by decide +kernel), kb_c1 1 rfl (by decide +kernel), by decide +kernel, by decide +kernel, pd_10⟩
theorem kv_X1_isSoundInFrees : kVt yX1_isSoundInFrees cX1_isSoundInFrees 2 (some .boolean) 0 := ⟨kb_c1 231 rfl (by decide +kernel), kb_c1 230 rfl (by decide +kernel), kb_in 13 (by decide +kernel), kb_c1 1 rfl (by decide +kernel), by decide +kernel, by decide +kernel, pd_10⟩
theorem kv_X1_isSoundInSpans : kVt yX1_isSoundInSpans cX1_isSoundInSpans 3 (some .boolean) 0 := ⟨kb_c1 219 rfl (by decide +kernel), kb_c1 218 rfl (by decide +kernel), kb_in 11 (by decide +kernel), kb_c1 1 rfl (by decide +kernel), by decide +kernel, by decide +kernel, pd_10⟩
theorem kv_X1_isSoundInWishes : kVt yX1_isSoundInWishes cX1_isSoundInWishes 2 (some .boolean) 0 := ⟨kb_c2 3 rfl (by decide +kernel), kb_c2 2 rfl (by decide +kernel), kb_in 16 (by decide +kernel), kb_c1 1 rfl (by decide +kernel), by decide +kernel, by decide +kernel, pd_10⟩
theorem kv_X1_isWithin : kSt yX1_isWithin cX1_isWithin 3 (some .boolean) 3 := ⟨kb_c2 60 rfl (by decide +kernel), kb_c2 59 rfl (by decide +kernel), kb_c1 1 rfl (by decide +kernel), by decide +kernel, by decide +kernel, pd_34⟩
theorem kv_X1_isWithoutMeeting : kVt yX1_isWithoutMeeting cX1_isWithoutMeeting 4 (some .boolean) 1 := ⟨kb_c2 8 rfl (by decide +kernel), kb_c2 7 rfl (by decide +kernel), kb_in 17 (by decide +kernel), kb_c1 1 rfl (by decide +kernel), by decide +kernel, by decide +kernel, pd_25⟩
theorem kv_X1_length : kVt yX1_length cX1_length 2 (some .int) 1 := ⟨kb_c2 149 rfl (by decide +kernel), kb_c2 147 rfl (by decide +kernel), kb_c2 148 rfl (by decide +kernel), kb_c1 1 rfl (by decide +kernel), by decide +kernel, by decide +kernel, pd_11⟩
theorem kv_X1_lengthOf : kSt yX1_lengthOf cX1_lengthOf 2 (some .long) 2 := ⟨kb_c2 221 rfl (by decide +kernel), kb_c2 220 rfl (by decide +kernel), kb_c1 1 rfl (by decide +kernel), by decide +kernel, by decide +kernel, pd_35⟩
theorem kv_X1_meetsOneOf : kVt yX1_meetsOneOf cX1_meetsOneOf 4 (some .boolean) 2 := ⟨kb_c1 178 rfl (by decide +kernel), kb_c1 177 rfl (by decide +kernel), kb_in 6 (by decide +kernel), kb_c1 1 rfl (by decide +kernel), by decide +kernel, by decide +kernel, pd_22⟩
theorem kv_X1_mix : kSt yX1_mix cX1_mix 3 (some .long) 2 := ⟨kb_c2 42 rfl (by decide +kernel), kb_c2 41 rfl (by decide +kernel), kb_c1 1 rfl (by decide +kernel), by decide +kernel, by decide +kernel, pd_36⟩
theorem kv_X1_mixCells : kVt yX1_mixCells cX1_mixCells 6 (some .long) 1 := ⟨kb_c2 32 rfl (by decide +kernel), kb_c2 31 rfl (by decide +kernel), kb_in 20 (by decide +kernel), kb_c1 1 rfl (by decide +kernel), by decide +kernel, by decide +kernel, pd_31⟩
theorem kv_X1_mixFrees : kVt yX1_mixFrees cX1_mixFrees 6 (some .long) 1 := ⟨kb_c2 145 rfl (by decide +kernel), kb_c2 144 rfl (by decide +kernel), kb_in 23 (by decide +kernel), kb_c1 1 rfl (by decide +kernel), by decide +kernel, by decide +kernel, pd_31⟩
theorem kv_X1_mixParts : kSt yX1_mixParts cX1_mixParts 7 (some .long) 3 := ⟨kb_c2 136 rfl (by decide +kernel), kb_c2 135 rfl (by decide +kernel), kb_c1 1 rfl (by decide +kernel), by decide +kernel, by decide +kernel, pd_37⟩
theorem kv_X1_mixSpans : kVt yX1_mixSpans cX1_mixSpans 6 (some .long) 1 := ⟨kb_c2 53 rfl (by decide +kernel), kb_c2 52 rfl (by decide +kernel), kb_in 21 (by decide +kernel), kb_c1 1 rfl (by decide +kernel), by decide +kernel, by decide +kernel, pd_31⟩
theorem kv_X1_mixWishes : kVt yX1_mixWishes cX1_mixWishes 6 (some .long) 1 := ⟨kb_c2 153 rfl (by decide +kernel), kb_c2 152 rfl (by decide +kernel), kb_in 24 (by decide +kernel), kb_c1 1 rfl (by decide +kernel), by decide +kernel, by decide +kernel, pd_31⟩
theorem kv_X1_mostOfAllSets : kVt yX1_mostOfAllSets cX1_mostOfAllSets 5 (some .int) 0 := ⟨kb_c2 18 rfl (by decide +kernel), kb_c2 17 rfl (by decide +kernel), kb_in 18 (by decide +kernel), kb_c1 1 rfl (by decide +kernel), by decide +kernel, by decide +kernel, pd_2⟩
theorem kv_X1_nanoOf : kSt yX1_nanoOf cX1_nanoOf 2 (some .int) 1 := ⟨kb_c2 46 rfl (by decide +kernel), kb_c2 45 rfl (by decide +kernel), kb_c1 1 rfl (by decide +kernel), by decide +kernel, by decide +kernel, pd_21⟩
theorem kv_X1_needCell : kSt yX1_needCell cX1_needCell 1 none 1 := ⟨kb_c2 179 rfl (by decide +kernel), kb_c2 178 rfl (by decide +kernel), kb_c1 1 rfl (by decide +kernel), by decide +kernel, by decide +kernel, pd_7⟩
theorem kv_X1_needNumberIn : kSt yX1_needNumberIn cX1_needNumberIn 2 none 2 := ⟨kb_c3 58 rfl (by decide +kernel), kb_c3 57 rfl (by decide +kernel), kb_c1 1 rfl (by decide +kernel), by decide +kernel, by decide +kernel, pd_38⟩
theorem kv_X1_needThat : kSt yX1_needThat cX1_needThat 1 none 1 := ⟨kb_c2 63 rfl (by decide +kernel), kb_c2 62 rfl (by decide +kernel), kb_c1 1 rfl (by decide +kernel), by decide +kernel, by decide +kernel, pd_39⟩
theorem kv_X1_needUnits : kSt yX1_needUnits cX1_needUnits 3 none 3 := ⟨kb_c2 218 rfl (by decide +kernel), kb_c2 217 rfl (by decide +kernel), kb_c1 1 rfl (by decide +kernel), by decide +kernel, by decide +kernel, pd_40⟩
theorem kv_X1_nextChosen : kVt yX1_nextChosen cX1_nextChosen 4 (some .int) 1 := ⟨kb_c1 174 rfl (by decide +kernel), kb_c1 173 rfl (by decide +kernel), kb_in 5 (by decide +kernel), kb_c1 1 rfl (by decide +kernel), by decide +kernel, by decide +kernel, pd_11⟩
theorem kv_X1_partIn : kSt yX1_partIn cX1_partIn 3 (some .int) 3 := ⟨kb_c2 139 rfl (by decide +kernel), kb_c2 138 rfl (by decide +kernel), kb_c1 1 rfl (by decide +kernel), by decide +kernel, by decide +kernel, pd_41⟩
theorem kv_X1_partOf : kSt yX1_partOf cX1_partOf 3 (some .int) 2 := ⟨kb_c2 133 rfl (by decide +kernel), kb_c2 132 rfl (by decide +kernel), kb_c1 1 rfl (by decide +kernel), by decide +kernel, by decide +kernel, pd_28⟩
theorem kv_X1_refuse : kVt yX1_refuse cX1_refuse 1 (some .int) 0 := ⟨kb_c2 208 rfl (by decide +kernel), kb_c2 207 rfl (by decide +kernel), kb_in 25 (by decide +kernel), kb_c1 1 rfl (by decide +kernel), by decide +kernel, by decide +kernel, pd_2⟩
theorem kv_X1_roomCount : kVt yX1_roomCount cX1_roomCount 3 (some .int) 0 := ⟨kb_c1 206 rfl (by decide +kernel), kb_c1 205 rfl (by decide +kernel), kb_in 10 (by decide +kernel), kb_c1 1 rfl (by decide +kernel), by decide +kernel, by decide +kernel, pd_2⟩
theorem kv_X1_secondOf : kSt yX1_secondOf cX1_secondOf 2 (some .int) 1 := ⟨kb_c2 35 rfl (by decide +kernel), kb_c2 34 rfl (by decide +kernel), kb_c1 1 rfl (by decide +kernel), by decide +kernel, by decide +kernel, pd_21⟩
theorem kv_X1_setOfAllWishes : kVt yX1_setOfAllWishes cX1_setOfAllWishes 1 (some .int) 0 := ⟨kb_c2 22 rfl (by decide +kernel), kb_c2 21 rfl (by decide +kernel), kb_in 19 (by decide +kernel), kb_c1 1 rfl (by decide +kernel), by decide +kernel, by decide +kernel, pd_2⟩
theorem kv_X1_sideOf : kSt yX1_sideOf cX1_sideOf 4 (some .int) 2 := ⟨kb_c2 225 rfl (by decide +kernel), kb_c2 224 rfl (by decide +kernel), kb_c1 1 rfl (by decide +kernel), by decide +kernel, by decide +kernel, pd_42⟩
theorem kv_X1_smallestRoom : kVt yX1_smallestRoom cX1_smallestRoom 4 (some .int) 1 := ⟨kb_c1 202 rfl (by decide +kernel), kb_c1 201 rfl (by decide +kernel), kb_in 9 (by decide +kernel), kb_c1 1 rfl (by decide +kernel), by decide +kernel, by decide +kernel, pd_11⟩
theorem kv_X1_takenLength : kVt yX1_takenLength cX1_takenLength 8 (some .long) 0 := ⟨kb_c1 235 rfl (by decide +kernel), kb_c1 234 rfl (by decide +kernel), kb_in 14 (by decide +kernel), kb_c1 1 rfl (by decide +kernel), by decide +kernel, by decide +kernel, pd_32⟩
