/-! ===== words for making the objects; by program ===== -/
theorem wm_167 : Cond.classLink "IceJudgeLaw" 8 "IceJudge" ∈ lw_tbl := List.mem_append_right _ (List.mem_append_left _ (List.mem_of_getElem? (i := 27) (by decide +kernel : tables_1_1[27]? = some (Cond.classLink "IceJudgeLaw" 8 "IceJudge"))))
theorem wm_168 : Cond.instantiable "IceJudge" 9 ∈ lw_tbl := List.mem_append_right _ (List.mem_append_left _ (List.mem_of_getElem? (i := 28) (by decide +kernel : tables_1_1[28]? = some (Cond.instantiable "IceJudge" 9))))
theorem wm_170 : Cond.instanceMethod yX9_init ∈ lw_tbl := List.mem_append_right _ (List.mem_append_left _ (List.mem_of_getElem? (i := 30) (by decide +kernel : tables_1_1[30]? = some (Cond.instanceMethod yX9_init))))
theorem wm_171 : Cond.code yX9_init cX9_init 1 none ∈ lw_tbl := List.mem_append_right _ (List.mem_append_left _ (List.mem_of_getElem? (i := 31) (by decide +kernel : tables_1_1[31]? = some (Cond.code yX9_init cX9_init 1 none))))
theorem wm_172 : Cond.methodLink "IceJudge" 3 Lib.objectInit ∈ lw_tbl := List.mem_append_right _ (List.mem_append_left _ (List.mem_of_getElem? (i := 32) (by decide +kernel : tables_1_1[32]? = some (Cond.methodLink "IceJudge" 3 Lib.objectInit))))
theorem wm_173 : Cond.instanceMethod Lib.objectInit ∈ lw_tbl := List.mem_append_right _ (List.mem_append_left _ (List.mem_of_getElem? (i := 33) (by decide +kernel : tables_1_1[33]? = some (Cond.instanceMethod Lib.objectInit))))
theorem wm_174 : Cond.code Lib.objectInit ⟨#[0xb1]⟩ 1 none ∈ lw_tbl := List.mem_append_right _ (List.mem_append_left _ (List.mem_of_getElem? (i := 34) (by decide +kernel : tables_1_1[34]? = some (Cond.code Lib.objectInit ⟨#[0xb1]⟩ 1 none))))
theorem wm_175 : Cond.classLink "IceJudge" 20 "IceJudge$Event" ∈ lw_tbl := List.mem_append_right _ (List.mem_append_left _ (List.mem_of_getElem? (i := 35) (by decide +kernel : tables_1_1[35]? = some (Cond.classLink "IceJudge" 20 "IceJudge$Event"))))
theorem wm_176 : Cond.instantiable "IceJudge$Event" 8 ∈ lw_tbl := List.mem_append_right _ (List.mem_append_left _ (List.mem_of_getElem? (i := 36) (by decide +kernel : tables_1_1[36]? = some (Cond.instantiable "IceJudge$Event" 8))))
theorem wm_178 : Cond.instanceMethod yX1_init ∈ lw_tbl := List.mem_append_right _ (List.mem_append_left _ (List.mem_of_getElem? (i := 38) (by decide +kernel : tables_1_1[38]? = some (Cond.instanceMethod yX1_init))))
theorem wm_179 : Cond.code yX1_init cX1_init 2 none ∈ lw_tbl := List.mem_append_right _ (List.mem_append_left _ (List.mem_of_getElem? (i := 39) (by decide +kernel : tables_1_1[39]? = some (Cond.code yX1_init cX1_init 2 none))))
theorem wm_180 : Cond.methodLink "IceJudge$Event" 3 Lib.objectInit ∈ lw_tbl := List.mem_append_right _ (List.mem_append_left _ (List.mem_of_getElem? (i := 40) (by decide +kernel : tables_1_1[40]? = some (Cond.methodLink "IceJudge$Event" 3 Lib.objectInit))))
theorem wm_181 : Cond.classLink "IceJudge$Event" 19 "IceJudge$Names" ∈ lw_tbl := List.mem_append_right _ (List.mem_append_left _ (List.mem_of_getElem? (i := 41) (by decide +kernel : tables_1_1[41]? = some (Cond.classLink "IceJudge$Event" 19 "IceJudge$Names"))))
theorem wm_182 : Cond.instantiable "IceJudge$Names" 4 ∈ lw_tbl := List.mem_append_right _ (List.mem_append_left _ (List.mem_of_getElem? (i := 42) (by decide +kernel : tables_1_1[42]? = some (Cond.instantiable "IceJudge$Names" 4))))
theorem wm_184 : Cond.instanceMethod yX2_init ∈ lw_tbl := List.mem_append_right _ (List.mem_append_left _ (List.mem_of_getElem? (i := 44) (by decide +kernel : tables_1_1[44]? = some (Cond.instanceMethod yX2_init))))
theorem wm_185 : Cond.code yX2_init cX2_init 2 none ∈ lw_tbl := List.mem_append_right _ (List.mem_append_left _ (List.mem_of_getElem? (i := 45) (by decide +kernel : tables_1_1[45]? = some (Cond.code yX2_init cX2_init 2 none))))
theorem wm_186 : Cond.methodLink "IceJudge$Names" 3 Lib.objectInit ∈ lw_tbl := List.mem_append_right _ (List.mem_append_left _ (List.mem_of_getElem? (i := 46) (by decide +kernel : tables_1_1[46]? = some (Cond.methodLink "IceJudge$Names" 3 Lib.objectInit))))
theorem wm_203 : Cond.arrayClass .int ∈ lw_tbl := List.mem_append_right _ (List.mem_append_left _ (List.mem_of_getElem? (i := 63) (by decide +kernel : tables_1_1[63]? = some (Cond.arrayClass .int))))
theorem wm_204 : Cond.classLink "IceJudge$Event" 34 "IceJudge$Rules" ∈ lw_tbl := List.mem_append_right _ (List.mem_append_left _ (List.mem_of_getElem? (i := 64) (by decide +kernel : tables_1_1[64]? = some (Cond.classLink "IceJudge$Event" 34 "IceJudge$Rules"))))
theorem wm_205 : Cond.instantiable "IceJudge$Rules" 7 ∈ lw_tbl := List.mem_append_right _ (List.mem_append_left _ (List.mem_of_getElem? (i := 65) (by decide +kernel : tables_1_1[65]? = some (Cond.instantiable "IceJudge$Rules" 7))))
theorem wm_207 : Cond.instanceMethod yX5_init ∈ lw_tbl := List.mem_append_right _ (List.mem_append_left _ (List.mem_of_getElem? (i := 67) (by decide +kernel : tables_1_1[67]? = some (Cond.instanceMethod yX5_init))))
theorem wm_208 : Cond.code yX5_init cX5_init 1 none ∈ lw_tbl := List.mem_append_right _ (List.mem_append_left _ (List.mem_of_getElem? (i := 68) (by decide +kernel : tables_1_1[68]? = some (Cond.code yX5_init cX5_init 1 none))))
theorem wm_209 : Cond.methodLink "IceJudge$Rules" 3 Lib.objectInit ∈ lw_tbl := List.mem_append_right _ (List.mem_append_left _ (List.mem_of_getElem? (i := 69) (by decide +kernel : tables_1_1[69]? = some (Cond.methodLink "IceJudge$Rules" 3 Lib.objectInit))))
theorem wm_235 : Cond.classLink "IceJudge$Event" 44 "IceJudge$Skating" ∈ lw_tbl := List.mem_append_right _ (List.mem_append_left _ (List.mem_of_getElem? (i := 95) (by decide +kernel : tables_1_1[95]? = some (Cond.classLink "IceJudge$Event" 44 "IceJudge$Skating"))))
theorem wm_242 : Cond.instantiable "IceJudge$Skating" 8 ∈ lw_tbl := List.mem_append_right _ (List.mem_append_left _ (List.mem_of_getElem? (i := 102) (by decide +kernel : tables_1_1[102]? = some (Cond.instantiable "IceJudge$Skating" 8))))
theorem wm_244 : Cond.instanceMethod yX6_init ∈ lw_tbl := List.mem_append_right _ (List.mem_append_left _ (List.mem_of_getElem? (i := 104) (by decide +kernel : tables_1_1[104]? = some (Cond.instanceMethod yX6_init))))
theorem wm_245 : Cond.code yX6_init cX6_init 1 none ∈ lw_tbl := List.mem_append_right _ (List.mem_append_left _ (List.mem_of_getElem? (i := 105) (by decide +kernel : tables_1_1[105]? = some (Cond.code yX6_init cX6_init 1 none))))
theorem wm_246 : Cond.methodLink "IceJudge$Skating" 3 Lib.objectInit ∈ lw_tbl := List.mem_append_right _ (List.mem_append_left _ (List.mem_of_getElem? (i := 106) (by decide +kernel : tables_1_1[106]? = some (Cond.methodLink "IceJudge$Skating" 3 Lib.objectInit))))
theorem wm_357 : Cond.classLink "IceJudge" 30 "IceJudge$Reader" ∈ lw_tbl := List.mem_append_right _ (List.mem_append_left _ (List.mem_of_getElem? (i := 217) (by decide +kernel : tables_1_1[217]? = some (Cond.classLink "IceJudge" 30 "IceJudge$Reader"))))
theorem wm_358 : Cond.instantiable "IceJudge$Reader" 9 ∈ lw_tbl := List.mem_append_right _ (List.mem_append_left _ (List.mem_of_getElem? (i := 218) (by decide +kernel : tables_1_1[218]? = some (Cond.instantiable "IceJudge$Reader" 9))))
theorem wm_360 : Cond.instanceMethod yX4_init ∈ lw_tbl := List.mem_append_right _ (List.mem_append_left _ (List.mem_of_getElem? (i := 220) (by decide +kernel : tables_1_1[220]? = some (Cond.instanceMethod yX4_init))))
theorem wm_361 : Cond.code yX4_init cX4_init 3 none ∈ lw_tbl := List.mem_append_right _ (List.mem_append_left _ (List.mem_of_getElem? (i := 221) (by decide +kernel : tables_1_1[221]? = some (Cond.code yX4_init cX4_init 3 none))))
theorem wm_362 : Cond.methodLink "IceJudge$Reader" 3 Lib.objectInit ∈ lw_tbl := List.mem_append_right _ (List.mem_append_left _ (List.mem_of_getElem? (i := 222) (by decide +kernel : tables_1_1[222]? = some (Cond.methodLink "IceJudge$Reader" 3 Lib.objectInit))))
theorem wm_391 : Cond.classLink "IceJudge" 39 "IceJudge$Standings" ∈ lw_tbl := List.mem_append_right _ (List.mem_append_right _ (List.mem_append_left _ (List.mem_of_getElem? (i := 11) (by decide +kernel : tables_1_2[11]? = some (Cond.classLink "IceJudge" 39 "IceJudge$Standings")))))
theorem wm_392 : Cond.instantiable "IceJudge$Standings" 7 ∈ lw_tbl := List.mem_append_right _ (List.mem_append_right _ (List.mem_append_left _ (List.mem_of_getElem? (i := 12) (by decide +kernel : tables_1_2[12]? = some (Cond.instantiable "IceJudge$Standings" 7)))))
theorem wm_394 : Cond.instanceMethod yX7_init ∈ lw_tbl := List.mem_append_right _ (List.mem_append_right _ (List.mem_append_left _ (List.mem_of_getElem? (i := 14) (by decide +kernel : tables_1_2[14]? = some (Cond.instanceMethod yX7_init)))))
theorem wm_395 : Cond.code yX7_init cX7_init 3 none ∈ lw_tbl := List.mem_append_right _ (List.mem_append_right _ (List.mem_append_left _ (List.mem_of_getElem? (i := 15) (by decide +kernel : tables_1_2[15]? = some (Cond.code yX7_init cX7_init 3 none)))))
theorem wm_396 : Cond.methodLink "IceJudge$Standings" 3 Lib.objectInit ∈ lw_tbl := List.mem_append_right _ (List.mem_append_right _ (List.mem_append_left _ (List.mem_of_getElem? (i := 16) (by decide +kernel : tables_1_2[16]? = some (Cond.methodLink "IceJudge$Standings" 3 Lib.objectInit)))))
theorem wm_397 : Cond.classLink "IceJudge$Standings" 9 "IceJudge$Tally" ∈ lw_tbl := List.mem_append_right _ (List.mem_append_right _ (List.mem_append_left _ (List.mem_of_getElem? (i := 17) (by decide +kernel : tables_1_2[17]? = some (Cond.classLink "IceJudge$Standings" 9 "IceJudge$Tally")))))
theorem wm_399 : Cond.instantiable "IceJudge$Tally" 15 ∈ lw_tbl := List.mem_append_right _ (List.mem_append_right _ (List.mem_append_left _ (List.mem_of_getElem? (i := 19) (by decide +kernel : tables_1_2[19]? = some (Cond.instantiable "IceJudge$Tally" 15)))))
theorem wm_401 : Cond.instanceMethod yX8_init ∈ lw_tbl := List.mem_append_right _ (List.mem_append_right _ (List.mem_append_left _ (List.mem_of_getElem? (i := 21) (by decide +kernel : tables_1_2[21]? = some (Cond.instanceMethod yX8_init)))))
theorem wm_402 : Cond.code yX8_init cX8_init 3 none ∈ lw_tbl := List.mem_append_right _ (List.mem_append_right _ (List.mem_append_left _ (List.mem_of_getElem? (i := 22) (by decide +kernel : tables_1_2[22]? = some (Cond.code yX8_init cX8_init 3 none)))))
theorem wm_403 : Cond.methodLink "IceJudge$Tally" 3 Lib.objectInit ∈ lw_tbl := List.mem_append_right _ (List.mem_append_right _ (List.mem_append_left _ (List.mem_of_getElem? (i := 23) (by decide +kernel : tables_1_2[23]? = some (Cond.methodLink "IceJudge$Tally" 3 Lib.objectInit)))))
theorem wm_483 : Cond.classLink "IceJudge" 48 "IceJudge$Acts" ∈ lw_tbl := List.mem_append_right _ (List.mem_append_right _ (List.mem_append_left _ (List.mem_of_getElem? (i := 103) (by decide +kernel : tables_1_2[103]? = some (Cond.classLink "IceJudge" 48 "IceJudge$Acts")))))
theorem wm_484 : Cond.instantiable "IceJudge$Acts" 6 ∈ lw_tbl := List.mem_append_right _ (List.mem_append_right _ (List.mem_append_left _ (List.mem_of_getElem? (i := 104) (by decide +kernel : tables_1_2[104]? = some (Cond.instantiable "IceJudge$Acts" 6)))))
theorem wm_486 : Cond.instanceMethod yX0_init ∈ lw_tbl := List.mem_append_right _ (List.mem_append_right _ (List.mem_append_left _ (List.mem_of_getElem? (i := 106) (by decide +kernel : tables_1_2[106]? = some (Cond.instanceMethod yX0_init)))))
theorem wm_487 : Cond.code yX0_init cX0_init 1 none ∈ lw_tbl := List.mem_append_right _ (List.mem_append_right _ (List.mem_append_left _ (List.mem_of_getElem? (i := 107) (by decide +kernel : tables_1_2[107]? = some (Cond.code yX0_init cX0_init 1 none)))))
theorem wm_488 : Cond.methodLink "IceJudge$Acts" 3 Lib.objectInit ∈ lw_tbl := List.mem_append_right _ (List.mem_append_right _ (List.mem_append_left _ (List.mem_of_getElem? (i := 108) (by decide +kernel : tables_1_2[108]? = some (Cond.methodLink "IceJudge$Acts" 3 Lib.objectInit)))))
theorem wm_509 : Cond.classLink "IceJudge" 55 "IceJudge$Protocol" ∈ lw_tbl := List.mem_append_right _ (List.mem_append_right _ (List.mem_append_left _ (List.mem_of_getElem? (i := 129) (by decide +kernel : tables_1_2[129]? = some (Cond.classLink "IceJudge" 55 "IceJudge$Protocol")))))
theorem wm_510 : Cond.instantiable "IceJudge$Protocol" 2 ∈ lw_tbl := List.mem_append_right _ (List.mem_append_right _ (List.mem_append_left _ (List.mem_of_getElem? (i := 130) (by decide +kernel : tables_1_2[130]? = some (Cond.instantiable "IceJudge$Protocol" 2)))))
theorem wm_512 : Cond.instanceMethod yX3_init ∈ lw_tbl := List.mem_append_right _ (List.mem_append_right _ (List.mem_append_left _ (List.mem_of_getElem? (i := 132) (by decide +kernel : tables_1_2[132]? = some (Cond.instanceMethod yX3_init)))))
theorem wm_513 : Cond.code yX3_init cX3_init 1 none ∈ lw_tbl := List.mem_append_right _ (List.mem_append_right _ (List.mem_append_left _ (List.mem_of_getElem? (i := 133) (by decide +kernel : tables_1_2[133]? = some (Cond.code yX3_init cX3_init 1 none)))))
theorem wm_514 : Cond.methodLink "IceJudge$Protocol" 3 Lib.objectInit ∈ lw_tbl := List.mem_append_right _ (List.mem_append_right _ (List.mem_append_left _ (List.mem_of_getElem? (i := 134) (by decide +kernel : tables_1_2[134]? = some (Cond.methodLink "IceJudge$Protocol" 3 Lib.objectInit)))))
theorem wm_1039 : Cond.arrayClass .byte ∈ lw_tbl := List.mem_append_right _ (List.mem_append_right _ (List.mem_append_right _ (List.mem_append_right _ (List.mem_append_left _ (List.mem_of_getElem? (i := 179) (by decide +kernel : tables_1_4[179]? = some (Cond.arrayClass .byte)))))))
theorem wm_1512 : Cond.classLink "IceJudgeLaw" 124 "IceJudgeModel" ∈ lw_tbl := List.mem_append_right _ (List.mem_append_right _ (List.mem_append_right _ (List.mem_append_right _ (List.mem_append_right _ (List.mem_append_right _ (List.mem_append_left _ (List.mem_of_getElem? (i := 172) (by decide +kernel : tables_1_6[172]? = some (Cond.classLink "IceJudgeLaw" 124 "IceJudgeModel")))))))))
theorem wm_1513 : Cond.instantiable "IceJudgeModel" 32 ∈ lw_tbl := List.mem_append_right _ (List.mem_append_right _ (List.mem_append_right _ (List.mem_append_right _ (List.mem_append_right _ (List.mem_append_right _ (List.mem_append_left _ (List.mem_of_getElem? (i := 173) (by decide +kernel : tables_1_6[173]? = some (Cond.instantiable "IceJudgeModel" 32)))))))))
theorem wm_1515 : Cond.instanceMethod yX10_init ∈ lw_tbl := List.mem_append_right _ (List.mem_append_right _ (List.mem_append_right _ (List.mem_append_right _ (List.mem_append_right _ (List.mem_append_right _ (List.mem_append_left _ (List.mem_of_getElem? (i := 175) (by decide +kernel : tables_1_6[175]? = some (Cond.instanceMethod yX10_init)))))))))
theorem wm_1516 : Cond.code yX10_init cX10_init 1 none ∈ lw_tbl := List.mem_append_right _ (List.mem_append_right _ (List.mem_append_right _ (List.mem_append_right _ (List.mem_append_right _ (List.mem_append_right _ (List.mem_append_left _ (List.mem_of_getElem? (i := 176) (by decide +kernel : tables_1_6[176]? = some (Cond.code yX10_init cX10_init 1 none)))))))))
theorem wm_1517 : Cond.methodLink "IceJudgeModel" 76 Lib.objectInit ∈ lw_tbl := List.mem_append_right _ (List.mem_append_right _ (List.mem_append_right _ (List.mem_append_right _ (List.mem_append_right _ (List.mem_append_right _ (List.mem_append_left _ (List.mem_of_getElem? (i := 177) (by decide +kernel : tables_1_6[177]? = some (Cond.methodLink "IceJudgeModel" 76 Lib.objectInit)))))))))
theorem wm_1623 : Cond.arrayClass .long ∈ lw_tbl := List.mem_append_right _ (List.mem_append_right _ (List.mem_append_right _ (List.mem_append_right _ (List.mem_append_right _ (List.mem_append_right _ (List.mem_append_right _ (List.mem_append_left _ (List.mem_of_getElem? (i := 43) (by decide +kernel : tables_1_7[43]? = some (Cond.arrayClass .long))))))))))
theorem kk_1 : jkd 1 = 9 := by decide +kernel
theorem kk_2 : jkd 2 = 12 := by decide +kernel
theorem kk_3 : jkd 3 = 1 := by decide +kernel
theorem kk_4 : jkd 4 = 12 := by decide +kernel
theorem kk_5 : jkd 5 = 2 := by decide +kernel
theorem kk_6 : jkd 6 = 12 := by decide +kernel
theorem kk_7 : jkd 7 = 12 := by decide +kernel
theorem kk_8 : jkd 8 = 12 := by decide +kernel
theorem kk_9 : jkd 9 = 12 := by decide +kernel
theorem kk_10 : jkd 10 = 5 := by decide +kernel
theorem kk_11 : jkd 11 = 12 := by decide +kernel
theorem kk_12 : jkd 12 = 12 := by decide +kernel
theorem kk_13 : jkd 13 = 12 := by decide +kernel
theorem kk_14 : jkd 14 = 12 := by decide +kernel
theorem kk_15 : jkd 15 = 12 := by decide +kernel
theorem kk_16 : jkd 16 = 2 := by decide +kernel
theorem kk_17 : jkd 17 = 12 := by decide +kernel
theorem kk_18 : jkd 18 = 12 := by decide +kernel
theorem kk_19 : jkd 19 = 14 := by decide +kernel
theorem kk_20 : jkd 20 = 6 := by decide +kernel
theorem kk_21 : jkd 21 = 12 := by decide +kernel
theorem kk_22 : jkd 22 = 12 := by decide +kernel
theorem kk_23 : jkd 23 = 12 := by decide +kernel
theorem kk_24 : jkd 24 = 12 := by decide +kernel
theorem kk_25 : jkd 25 = 12 := by decide +kernel
theorem kk_26 : jkd 26 = 6 := by decide +kernel
theorem kk_27 : jkd 27 = 12 := by decide +kernel
theorem kk_28 : jkd 28 = 12 := by decide +kernel
theorem kk_29 : jkd 29 = 12 := by decide +kernel
theorem kk_30 : jkd 30 = 12 := by decide +kernel
theorem kk_31 : jkd 31 = 12 := by decide +kernel
theorem kk_32 : jkd 32 = 6 := by decide +kernel
theorem kk_33 : jkd 33 = 12 := by decide +kernel
theorem kk_34 : jkd 34 = 12 := by decide +kernel
theorem kk_35 : jkd 35 = 12 := by decide +kernel
theorem kk_36 : jkd 36 = 12 := by decide +kernel
theorem kk_37 : jkd 37 = 12 := by decide +kernel
theorem kk_38 : jkd 38 = 6 := by decide +kernel
theorem kk_39 : jkd 39 = 12 := by decide +kernel
theorem kk_40 : jkd 40 = 12 := by decide +kernel
theorem kk_41 : jkd 41 = 12 := by decide +kernel
theorem kk_42 : jkd 42 = 12 := by decide +kernel
theorem kk_43 : jkd 43 = 12 := by decide +kernel
theorem kk_44 : jkd 44 = 6 := by decide +kernel
theorem kk_45 : jkd 45 = 12 := by decide +kernel
theorem kk_46 : jkd 46 = 12 := by decide +kernel
theorem kk_47 : jkd 47 = 12 := by decide +kernel
theorem kk_48 : jkd 48 = 12 := by decide +kernel
theorem kk_49 : jkd 49 = 12 := by decide +kernel
theorem kk_50 : jkd 50 = 6 := by decide +kernel
theorem kk_51 : jkd 51 = 12 := by decide +kernel
theorem kk_52 : jkd 52 = 12 := by decide +kernel
theorem kk_53 : jkd 53 = 12 := by decide +kernel
theorem kk_54 : jkd 54 = 12 := by decide +kernel
theorem kk_55 : jkd 55 = 12 := by decide +kernel
theorem kk_56 : jkd 56 = 1 := by decide +kernel
theorem kk_57 : jkd 57 = 12 := by decide +kernel
theorem kk_58 : jkd 58 = 2 := by decide +kernel
theorem kk_59 : jkd 59 = 12 := by decide +kernel
theorem kk_60 : jkd 60 = 12 := by decide +kernel
theorem kk_61 : jkd 61 = 12 := by decide +kernel
theorem kk_62 : jkd 62 = 12 := by decide +kernel
theorem kk_63 : jkd 63 = 5 := by decide +kernel
theorem kk_64 : jkd 64 = 12 := by decide +kernel
theorem kk_65 : jkd 65 = 12 := by decide +kernel
theorem kk_66 : jkd 66 = 12 := by decide +kernel
theorem kk_67 : jkd 67 = 12 := by decide +kernel
theorem kk_68 : jkd 68 = 12 := by decide +kernel
theorem kk_69 : jkd 69 = 2 := by decide +kernel
theorem kk_70 : jkd 70 = 12 := by decide +kernel
theorem kk_71 : jkd 71 = 12 := by decide +kernel
theorem kk_72 : jkd 72 = 14 := by decide +kernel
theorem kk_73 : jkd 73 = 6 := by decide +kernel
theorem kk_74 : jkd 74 = 12 := by decide +kernel
theorem kk_75 : jkd 75 = 12 := by decide +kernel
theorem kk_76 : jkd 76 = 12 := by decide +kernel
theorem kk_77 : jkd 77 = 12 := by decide +kernel
theorem kk_78 : jkd 78 = 12 := by decide +kernel
theorem kk_79 : jkd 79 = 6 := by decide +kernel
theorem kk_80 : jkd 80 = 12 := by decide +kernel
theorem kk_81 : jkd 81 = 12 := by decide +kernel
theorem kk_82 : jkd 82 = 12 := by decide +kernel
theorem kk_83 : jkd 83 = 12 := by decide +kernel
theorem kk_84 : jkd 84 = 12 := by decide +kernel
theorem kk_85 : jkd 85 = 6 := by decide +kernel
theorem kk_86 : jkd 86 = 12 := by decide +kernel
theorem kk_87 : jkd 87 = 12 := by decide +kernel
theorem kk_88 : jkd 88 = 12 := by decide +kernel
theorem kk_89 : jkd 89 = 12 := by decide +kernel
theorem kk_90 : jkd 90 = 12 := by decide +kernel
theorem kk_91 : jkd 91 = 6 := by decide +kernel
theorem kk_92 : jkd 92 = 12 := by decide +kernel
theorem kk_93 : jkd 93 = 12 := by decide +kernel
theorem kk_94 : jkd 94 = 12 := by decide +kernel
theorem kk_95 : jkd 95 = 12 := by decide +kernel
theorem kk_96 : jkd 96 = 12 := by decide +kernel
theorem kk_97 : jkd 97 = 6 := by decide +kernel
theorem kk_98 : jkd 98 = 12 := by decide +kernel
theorem kk_99 : jkd 99 = 12 := by decide +kernel
theorem kk_100 : jkd 100 = 12 := by decide +kernel
theorem kk_101 : jkd 101 = 12 := by decide +kernel
theorem kk_102 : jkd 102 = 12 := by decide +kernel
theorem kk_103 : jkd 103 = 6 := by decide +kernel
theorem kk_104 : jkd 104 = 12 := by decide +kernel
theorem kk_105 : jkd 105 = 12 := by decide +kernel
theorem kk_106 : jkd 106 = 12 := by decide +kernel
theorem kk_107 : jkd 107 = 12 := by decide +kernel
theorem kk_108 : jkd 108 = 12 := by decide +kernel
theorem kk_109 : jkd 109 = 4 := by decide +kernel
theorem kk_110 : jkd 110 = 7 := by decide +kernel
theorem kk_111 : jkd 111 = 15 := by decide +kernel
theorem kk_112 : jkd 112 = 12 := by decide +kernel
theorem kk_113 : jkd 113 = 12 := by decide +kernel
theorem kk_114 : jkd 114 = 12 := by decide +kernel
theorem kk_115 : jkd 115 = 12 := by decide +kernel
theorem kk_116 : jkd 116 = 12 := by decide +kernel
theorem kk_117 : jkd 117 = 8 := by decide +kernel
theorem kk_118 : jkd 118 = 12 := by decide +kernel
theorem kk_119 : jkd 119 = 12 := by decide +kernel
theorem kk_120 : jkd 120 = 12 := by decide +kernel
theorem kk_121 : jkd 121 = 12 := by decide +kernel
theorem kk_122 : jkd 122 = 12 := by decide +kernel
theorem kk_123 : jkd 123 = 12 := by decide +kernel
theorem kk_124 : jkd 124 = 8 := by decide +kernel
theorem kk_125 : jkd 125 = 12 := by decide +kernel
theorem kk_126 : jkd 126 = 12 := by decide +kernel
theorem kk_127 : jkd 127 = 12 := by decide +kernel
theorem kk_128 : jkd 128 = 12 := by decide +kernel
theorem kk_129 : jkd 129 = 12 := by decide +kernel
theorem kk_130 : jkd 130 = 12 := by decide +kernel
theorem kk_131 : jkd 131 = 8 := by decide +kernel
theorem kk_132 : jkd 132 = 12 := by decide +kernel
theorem kk_133 : jkd 133 = 12 := by decide +kernel
theorem kk_134 : jkd 134 = 12 := by decide +kernel
theorem kk_135 : jkd 135 = 12 := by decide +kernel
theorem kk_136 : jkd 136 = 12 := by decide +kernel
theorem kk_137 : jkd 137 = 12 := by decide +kernel
theorem kk_138 : jkd 138 = 8 := by decide +kernel
theorem kk_139 : jkd 139 = 12 := by decide +kernel
theorem kk_140 : jkd 140 = 12 := by decide +kernel
theorem kk_141 : jkd 141 = 12 := by decide +kernel
theorem kk_142 : jkd 142 = 12 := by decide +kernel
theorem kk_143 : jkd 143 = 12 := by decide +kernel
theorem kk_144 : jkd 144 = 12 := by decide +kernel
theorem kk_145 : jkd 145 = 8 := by decide +kernel
theorem kk_146 : jkd 146 = 12 := by decide +kernel
theorem kk_147 : jkd 147 = 12 := by decide +kernel
theorem kk_148 : jkd 148 = 12 := by decide +kernel
theorem kk_149 : jkd 149 = 12 := by decide +kernel
theorem kk_150 : jkd 150 = 12 := by decide +kernel
theorem kk_151 : jkd 151 = 12 := by decide +kernel
theorem kk_152 : jkd 152 = 8 := by decide +kernel
theorem kk_153 : jkd 153 = 12 := by decide +kernel
theorem kk_154 : jkd 154 = 12 := by decide +kernel
theorem kk_155 : jkd 155 = 12 := by decide +kernel
theorem kk_156 : jkd 156 = 12 := by decide +kernel
theorem kk_157 : jkd 157 = 12 := by decide +kernel
theorem kk_158 : jkd 158 = 12 := by decide +kernel
theorem kk_159 : jkd 159 = 0 := by decide +kernel
theorem kk_160 : jkd 160 = 12 := by decide +kernel
theorem kk_161 : jkd 161 = 12 := by decide +kernel
theorem kk_162 : jkd 162 = 12 := by decide +kernel
theorem kk_163 : jkd 163 = 12 := by decide +kernel
theorem kk_164 : jkd 164 = 3 := by decide +kernel
theorem kk_165 : jkd 165 = 12 := by decide +kernel
theorem kk_166 : jkd 166 = 10 := by decide +kernel
theorem kk_167 : jkd 167 = 11 := by decide +kernel
theorem kk_168 : jkd 168 = 12 := by decide +kernel
theorem kk_169 : jkd 169 = 12 := by decide +kernel
theorem kk_170 : jkd 170 = 12 := by decide +kernel
theorem kk_171 : jkd 171 = 12 := by decide +kernel
theorem kk_172 : jkd 172 = 12 := by decide +kernel
theorem kk_173 : jkd 173 = 12 := by decide +kernel
theorem kk_174 : jkd 174 = 13 := by decide +kernel
theorem kk_175 : jkd 175 = 12 := by decide +kernel
theorem kk_176 : jkd 176 = 12 := by decide +kernel
theorem kk_177 : jkd 177 = 12 := by decide +kernel
theorem kk_178 : jkd 178 = 12 := by decide +kernel
theorem kk_179 : jkd 179 = 11 := by decide +kernel
theorem kk_180 : jkd 180 = 13 := by decide +kernel
theorem ll_1 : (jln 1).toNat = 9 := by decide +kernel
theorem ll_2 : (jln 2).toNat = 600 := by decide +kernel
theorem ll_3 : (jln 3).toNat = 8 := by decide +kernel
theorem ll_4 : (jln 4).toNat = 7 := by decide +kernel
theorem ll_5 : (jln 5).toNat = 4 := by decide +kernel
theorem ll_6 : (jln 6).toNat = 60 := by decide +kernel
theorem ll_7 : (jln 7).toNat = 10 := by decide +kernel
theorem ll_8 : (jln 8).toNat = 10 := by decide +kernel
theorem ll_9 : (jln 9).toNat = 10 := by decide +kernel
theorem ll_10 : (jln 10).toNat = 7 := by decide +kernel
theorem ll_11 : (jln 11).toNat = 600 := by decide +kernel
theorem ll_12 : (jln 12).toNat = 6 := by decide +kernel
theorem ll_13 : (jln 13).toNat = 6 := by decide +kernel
theorem ll_14 : (jln 14).toNat = 6 := by decide +kernel
theorem ll_15 : (jln 15).toNat = 16 := by decide +kernel
theorem ll_16 : (jln 16).toNat = 4 := by decide +kernel
theorem ll_17 : (jln 17).toNat = 36 := by decide +kernel
theorem ll_18 : (jln 18).toNat = 6 := by decide +kernel
theorem ll_19 : (jln 19).toNat = 6 := by decide +kernel
theorem ll_20 : (jln 20).toNat = 8 := by decide +kernel
theorem ll_21 : (jln 21).toNat = 12 := by decide +kernel
theorem ll_22 : (jln 22).toNat = 12 := by decide +kernel
theorem ll_23 : (jln 23).toNat = 36 := by decide +kernel
theorem ll_24 : (jln 24).toNat = 12 := by decide +kernel
theorem ll_25 : (jln 25).toNat = 135 := by decide +kernel
theorem ll_26 : (jln 26).toNat = 8 := by decide +kernel
theorem ll_27 : (jln 27).toNat = 12 := by decide +kernel
theorem ll_28 : (jln 28).toNat = 12 := by decide +kernel
theorem ll_29 : (jln 29).toNat = 36 := by decide +kernel
theorem ll_30 : (jln 30).toNat = 12 := by decide +kernel
theorem ll_31 : (jln 31).toNat = 135 := by decide +kernel
theorem ll_32 : (jln 32).toNat = 8 := by decide +kernel
theorem ll_33 : (jln 33).toNat = 12 := by decide +kernel
theorem ll_34 : (jln 34).toNat = 12 := by decide +kernel
theorem ll_35 : (jln 35).toNat = 36 := by decide +kernel
theorem ll_36 : (jln 36).toNat = 12 := by decide +kernel
theorem ll_37 : (jln 37).toNat = 135 := by decide +kernel
theorem ll_38 : (jln 38).toNat = 8 := by decide +kernel
theorem ll_39 : (jln 39).toNat = 12 := by decide +kernel
theorem ll_40 : (jln 40).toNat = 12 := by decide +kernel
theorem ll_41 : (jln 41).toNat = 36 := by decide +kernel
theorem ll_42 : (jln 42).toNat = 12 := by decide +kernel
theorem ll_43 : (jln 43).toNat = 135 := by decide +kernel
theorem ll_44 : (jln 44).toNat = 8 := by decide +kernel
theorem ll_45 : (jln 45).toNat = 12 := by decide +kernel
theorem ll_46 : (jln 46).toNat = 12 := by decide +kernel
theorem ll_47 : (jln 47).toNat = 36 := by decide +kernel
theorem ll_48 : (jln 48).toNat = 12 := by decide +kernel
theorem ll_49 : (jln 49).toNat = 135 := by decide +kernel
theorem ll_50 : (jln 50).toNat = 8 := by decide +kernel
theorem ll_51 : (jln 51).toNat = 12 := by decide +kernel
theorem ll_52 : (jln 52).toNat = 12 := by decide +kernel
theorem ll_53 : (jln 53).toNat = 36 := by decide +kernel
theorem ll_54 : (jln 54).toNat = 12 := by decide +kernel
theorem ll_55 : (jln 55).toNat = 135 := by decide +kernel
theorem ll_56 : (jln 56).toNat = 8 := by decide +kernel
theorem ll_57 : (jln 57).toNat = 7 := by decide +kernel
theorem ll_58 : (jln 58).toNat = 4 := by decide +kernel
theorem ll_59 : (jln 59).toNat = 60 := by decide +kernel
theorem ll_60 : (jln 60).toNat = 10 := by decide +kernel
theorem ll_61 : (jln 61).toNat = 10 := by decide +kernel
theorem ll_62 : (jln 62).toNat = 10 := by decide +kernel
theorem ll_63 : (jln 63).toNat = 7 := by decide +kernel
theorem ll_64 : (jln 64).toNat = 600 := by decide +kernel
theorem ll_65 : (jln 65).toNat = 6 := by decide +kernel
theorem ll_66 : (jln 66).toNat = 6 := by decide +kernel
theorem ll_67 : (jln 67).toNat = 6 := by decide +kernel
theorem ll_68 : (jln 68).toNat = 16 := by decide +kernel
theorem ll_69 : (jln 69).toNat = 4 := by decide +kernel
theorem ll_70 : (jln 70).toNat = 36 := by decide +kernel
theorem ll_71 : (jln 71).toNat = 6 := by decide +kernel
theorem ll_72 : (jln 72).toNat = 6 := by decide +kernel
theorem ll_73 : (jln 73).toNat = 8 := by decide +kernel
theorem ll_74 : (jln 74).toNat = 12 := by decide +kernel
theorem ll_75 : (jln 75).toNat = 12 := by decide +kernel
theorem ll_76 : (jln 76).toNat = 36 := by decide +kernel
theorem ll_77 : (jln 77).toNat = 12 := by decide +kernel
theorem ll_78 : (jln 78).toNat = 135 := by decide +kernel
theorem ll_79 : (jln 79).toNat = 8 := by decide +kernel
theorem ll_80 : (jln 80).toNat = 12 := by decide +kernel
theorem ll_81 : (jln 81).toNat = 12 := by decide +kernel
theorem ll_82 : (jln 82).toNat = 36 := by decide +kernel
theorem ll_83 : (jln 83).toNat = 12 := by decide +kernel
theorem ll_84 : (jln 84).toNat = 135 := by decide +kernel
theorem ll_85 : (jln 85).toNat = 8 := by decide +kernel
theorem ll_86 : (jln 86).toNat = 12 := by decide +kernel
theorem ll_87 : (jln 87).toNat = 12 := by decide +kernel
theorem ll_88 : (jln 88).toNat = 36 := by decide +kernel
theorem ll_89 : (jln 89).toNat = 12 := by decide +kernel
theorem ll_90 : (jln 90).toNat = 135 := by decide +kernel
theorem ll_91 : (jln 91).toNat = 8 := by decide +kernel
theorem ll_92 : (jln 92).toNat = 12 := by decide +kernel
theorem ll_93 : (jln 93).toNat = 12 := by decide +kernel
theorem ll_94 : (jln 94).toNat = 36 := by decide +kernel
theorem ll_95 : (jln 95).toNat = 12 := by decide +kernel
theorem ll_96 : (jln 96).toNat = 135 := by decide +kernel
theorem ll_97 : (jln 97).toNat = 8 := by decide +kernel
theorem ll_98 : (jln 98).toNat = 12 := by decide +kernel
theorem ll_99 : (jln 99).toNat = 12 := by decide +kernel
theorem ll_100 : (jln 100).toNat = 36 := by decide +kernel
theorem ll_101 : (jln 101).toNat = 12 := by decide +kernel
theorem ll_102 : (jln 102).toNat = 135 := by decide +kernel
theorem ll_103 : (jln 103).toNat = 8 := by decide +kernel
theorem ll_104 : (jln 104).toNat = 12 := by decide +kernel
theorem ll_105 : (jln 105).toNat = 12 := by decide +kernel
theorem ll_106 : (jln 106).toNat = 36 := by decide +kernel
theorem ll_107 : (jln 107).toNat = 12 := by decide +kernel
theorem ll_108 : (jln 108).toNat = 135 := by decide +kernel
theorem ll_109 : (jln 109).toNat = 9 := by decide +kernel
theorem ll_110 : (jln 110).toNat = 7 := by decide +kernel
theorem ll_111 : (jln 111).toNat = 6 := by decide +kernel
theorem ll_112 : (jln 112).toNat = 6 := by decide +kernel
theorem ll_113 : (jln 113).toNat = 54 := by decide +kernel
theorem ll_114 : (jln 114).toNat = 6 := by decide +kernel
theorem ll_115 : (jln 115).toNat = 6 := by decide +kernel
theorem ll_116 : (jln 116).toNat = 6 := by decide +kernel
theorem ll_117 : (jln 117).toNat = 15 := by decide +kernel
theorem ll_118 : (jln 118).toNat = 12 := by decide +kernel
theorem ll_119 : (jln 119).toNat = 12 := by decide +kernel
theorem ll_120 : (jln 120).toNat = 12 := by decide +kernel
theorem ll_121 : (jln 121).toNat = 10 := by decide +kernel
theorem ll_122 : (jln 122).toNat = 10 := by decide +kernel
theorem ll_123 : (jln 123).toNat = 135 := by decide +kernel
theorem ll_124 : (jln 124).toNat = 15 := by decide +kernel
theorem ll_125 : (jln 125).toNat = 12 := by decide +kernel
theorem ll_126 : (jln 126).toNat = 12 := by decide +kernel
theorem ll_127 : (jln 127).toNat = 12 := by decide +kernel
theorem ll_128 : (jln 128).toNat = 10 := by decide +kernel
theorem ll_129 : (jln 129).toNat = 10 := by decide +kernel
theorem ll_130 : (jln 130).toNat = 135 := by decide +kernel
theorem ll_131 : (jln 131).toNat = 15 := by decide +kernel
theorem ll_132 : (jln 132).toNat = 12 := by decide +kernel
theorem ll_133 : (jln 133).toNat = 12 := by decide +kernel
theorem ll_134 : (jln 134).toNat = 12 := by decide +kernel
theorem ll_135 : (jln 135).toNat = 10 := by decide +kernel
theorem ll_136 : (jln 136).toNat = 10 := by decide +kernel
theorem ll_137 : (jln 137).toNat = 135 := by decide +kernel
theorem ll_138 : (jln 138).toNat = 15 := by decide +kernel
theorem ll_139 : (jln 139).toNat = 12 := by decide +kernel
theorem ll_140 : (jln 140).toNat = 12 := by decide +kernel
theorem ll_141 : (jln 141).toNat = 12 := by decide +kernel
theorem ll_142 : (jln 142).toNat = 10 := by decide +kernel
theorem ll_143 : (jln 143).toNat = 10 := by decide +kernel
theorem ll_144 : (jln 144).toNat = 135 := by decide +kernel
theorem ll_145 : (jln 145).toNat = 15 := by decide +kernel
theorem ll_146 : (jln 146).toNat = 12 := by decide +kernel
theorem ll_147 : (jln 147).toNat = 12 := by decide +kernel
theorem ll_148 : (jln 148).toNat = 12 := by decide +kernel
theorem ll_149 : (jln 149).toNat = 10 := by decide +kernel
theorem ll_150 : (jln 150).toNat = 10 := by decide +kernel
theorem ll_151 : (jln 151).toNat = 135 := by decide +kernel
theorem ll_152 : (jln 152).toNat = 15 := by decide +kernel
theorem ll_153 : (jln 153).toNat = 12 := by decide +kernel
theorem ll_154 : (jln 154).toNat = 12 := by decide +kernel
theorem ll_155 : (jln 155).toNat = 12 := by decide +kernel
theorem ll_156 : (jln 156).toNat = 10 := by decide +kernel
theorem ll_157 : (jln 157).toNat = 10 := by decide +kernel
theorem ll_158 : (jln 158).toNat = 135 := by decide +kernel
theorem ll_159 : (jln 159).toNat = 6 := by decide +kernel
theorem ll_160 : (jln 160).toNat = 16 := by decide +kernel
theorem ll_161 : (jln 161).toNat = 16 := by decide +kernel
theorem ll_162 : (jln 162).toNat = 16 := by decide +kernel
theorem ll_163 : (jln 163).toNat = 16 := by decide +kernel
theorem ll_164 : (jln 164).toNat = 2 := by decide +kernel
theorem ll_165 : (jln 165).toNat = 420 := by decide +kernel
theorem ll_166 : (jln 166).toNat = 32 := by decide +kernel
theorem ll_167 : (jln 167).toNat = 600 := by decide +kernel
theorem ll_168 : (jln 168).toNat = 5 := by decide +kernel
theorem ll_169 : (jln 169).toNat = 1089 := by decide +kernel
theorem ll_170 : (jln 170).toNat = 971 := by decide +kernel
theorem ll_171 : (jln 171).toNat = 1089 := by decide +kernel
theorem ll_172 : (jln 172).toNat = 971 := by decide +kernel
theorem ll_173 : (jln 173).toNat = 9 := by decide +kernel
theorem ll_174 : (jln 174).toNat = 600 := by decide +kernel
theorem ll_175 : (jln 175).toNat = 6 := by decide +kernel
theorem ll_176 : (jln 176).toNat = 6 := by decide +kernel
theorem ll_177 : (jln 177).toNat = 54 := by decide +kernel
theorem ll_178 : (jln 178).toNat = 15536 := by decide +kernel
theorem ll_179 : (jln 179).toNat = 1200 := by decide +kernel
theorem ll_180 : (jln 180).toNat = 1 := by decide +kernel
theorem dv_0 : ∀ j, j < 6 → defaultValue (tyX0 j) = (if jft 0 j = 1 then .null else .int 0) := by decide +kernel
theorem dv_1 : ∀ j, j < 8 → defaultValue (tyX1 j) = (if jft 1 j = 1 then .null else .int 0) := by decide +kernel
theorem dv_2 : ∀ j, j < 4 → defaultValue (tyX2 j) = (if jft 2 j = 1 then .null else .int 0) := by decide +kernel
theorem dv_3 : ∀ j, j < 2 → defaultValue (tyX3 j) = (if jft 3 j = 1 then .null else .int 0) := by decide +kernel
theorem dv_4 : ∀ j, j < 9 → defaultValue (tyX4 j) = (if jft 4 j = 1 then .null else .int 0) := by decide +kernel
theorem dv_5 : ∀ j, j < 7 → defaultValue (tyX5 j) = (if jft 5 j = 1 then .null else .int 0) := by decide +kernel
theorem dv_6 : ∀ j, j < 8 → defaultValue (tyX6 j) = (if jft 6 j = 1 then .null else .int 0) := by decide +kernel
theorem dv_7 : ∀ j, j < 7 → defaultValue (tyX7 j) = (if jft 7 j = 1 then .null else .int 0) := by decide +kernel
theorem dv_8 : ∀ j, j < 15 → defaultValue (tyX8 j) = (if jft 8 j = 1 then .null else .int 0) := by decide +kernel
theorem dv_9 : ∀ j, j < 9 → defaultValue (tyX9 j) = (if jft 9 j = 1 then .null else .int 0) := by decide +kernel
theorem dv_10 : ∀ j, j < 32 → defaultValue (tyX10 j) = (if jft 10 j = 1 then .null else .int 0) := by decide +kernel
theorem aw_int : Cond.arrayClass .int ∈ jTB := jTB_mem wm_203 rfl
theorem aw_byte : Cond.arrayClass .byte ∈ jTB := jTB_mem wm_1039 rfl
theorem aw_long : Cond.arrayClass .long ∈ jTB := jTB_mem wm_1623 rfl
theorem mi_X1_21 : jMI RX1 21 yX2_init cX2_init 2 1 := ⟨Or.inl (jTB_mem wm_183 rfl), jTB_mem wm_184 rfl, jTB_mem wm_143 rfl, jTB_mem wm_185 rfl, ⟨by decide +kernel, by decide +kernel, by decide +kernel⟩, by decide, rfl⟩
theorem mi_X1_36 : jMI RX1 36 yX5_init cX5_init 1 0 := ⟨Or.inr ⟨"IceJudge", jNB_mem wm_206 rfl⟩, jTB_mem wm_207 rfl, jTB_mem wm_144 rfl, jTB_mem wm_208 rfl, ⟨by decide +kernel, by decide +kernel, by decide +kernel⟩, by decide, rfl⟩
theorem mi_X1_59 : jMI RX1 59 yX6_init cX6_init 1 0 := ⟨Or.inr ⟨"IceJudge", jNB_mem wm_243 rfl⟩, jTB_mem wm_244 rfl, jTB_mem wm_146 rfl, jTB_mem wm_245 rfl, ⟨by decide +kernel, by decide +kernel, by decide +kernel⟩, by decide, rfl⟩
theorem mi_X9_22 : jMI RX9 22 yX1_init cX1_init 2 0 := ⟨Or.inl (jTB_mem wm_177 rfl), jTB_mem wm_178 rfl, jTB_mem wm_142 rfl, jTB_mem wm_179 rfl, ⟨by decide +kernel, by decide +kernel, by decide +kernel⟩, by decide, rfl⟩
theorem mi_X9_32 : jMI RX9 32 yX4_init cX4_init 3 2 := ⟨Or.inl (jTB_mem wm_359 rfl), jTB_mem wm_360 rfl, jTB_mem wm_147 rfl, jTB_mem wm_361 rfl, ⟨by decide +kernel, by decide +kernel, by decide +kernel⟩, by decide, rfl⟩
theorem mi_X7_37 : jMI RX7 37 yX8_init cX8_init 3 2 := ⟨Or.inl (jTB_mem wm_400 rfl), jTB_mem wm_401 rfl, jTB_mem wm_149 rfl, jTB_mem wm_402 rfl, ⟨by decide +kernel, by decide +kernel, by decide +kernel⟩, by decide, rfl⟩
theorem mi_X9_41 : jMI RX9 41 yX7_init cX7_init 3 1 := ⟨Or.inl (jTB_mem wm_393 rfl), jTB_mem wm_394 rfl, jTB_mem wm_148 rfl, jTB_mem wm_395 rfl, ⟨by decide +kernel, by decide +kernel, by decide +kernel⟩, by decide, rfl⟩
theorem mi_X9_50 : jMI RX9 50 yX0_init cX0_init 1 0 := ⟨Or.inr ⟨"IceJudge", jNB_mem wm_485 rfl⟩, jTB_mem wm_486 rfl, jTB_mem wm_150 rfl, jTB_mem wm_487 rfl, ⟨by decide +kernel, by decide +kernel, by decide +kernel⟩, by decide, rfl⟩
theorem mi_X9_57 : jMI RX9 57 yX3_init cX3_init 1 0 := ⟨Or.inr ⟨"IceJudge", jNB_mem wm_511 rfl⟩, jTB_mem wm_512 rfl, jTB_mem wm_151 rfl, jTB_mem wm_513 rfl, ⟨by decide +kernel, by decide +kernel, by decide +kernel⟩, by decide, rfl⟩
theorem mi_L_123 : jMI RL 123 yX9_init cX9_init 1 0 := ⟨Or.inl (jTB_mem wm_169 rfl), jTB_mem wm_170 rfl, jTB_mem wm_141 rfl, jTB_mem wm_171 rfl, ⟨by decide +kernel, by decide +kernel, by decide +kernel⟩, by decide, rfl⟩
theorem mi_L_126 : jMI RL 126 yX10_init cX10_init 1 0 := ⟨Or.inl (jTB_mem wm_1514 rfl), jTB_mem wm_1515 rfl, jTB_mem wm_152 rfl, jTB_mem wm_1516 rfl, ⟨by decide +kernel, by decide +kernel, by decide +kernel⟩, by decide, rfl⟩
theorem oi_X9 : jOI RX9 3 := ⟨jTB_mem wm_172 rfl, jTB_mem wm_173 rfl, jTB_mem wm_174 rfl⟩
theorem oi_X1 : jOI RX1 3 := ⟨jTB_mem wm_180 rfl, jTB_mem wm_173 rfl, jTB_mem wm_174 rfl⟩
theorem oi_X2 : jOI RX2 3 := ⟨jTB_mem wm_186 rfl, jTB_mem wm_173 rfl, jTB_mem wm_174 rfl⟩
theorem oi_X5 : jOI RX5 3 := ⟨jTB_mem wm_209 rfl, jTB_mem wm_173 rfl, jTB_mem wm_174 rfl⟩
theorem oi_X6 : jOI RX6 3 := ⟨jTB_mem wm_246 rfl, jTB_mem wm_173 rfl, jTB_mem wm_174 rfl⟩
theorem oi_X4 : jOI RX4 3 := ⟨jTB_mem wm_362 rfl, jTB_mem wm_173 rfl, jTB_mem wm_174 rfl⟩
theorem oi_X7 : jOI RX7 3 := ⟨jTB_mem wm_396 rfl, jTB_mem wm_173 rfl, jTB_mem wm_174 rfl⟩
theorem oi_X8 : jOI RX8 3 := ⟨jTB_mem wm_403 rfl, jTB_mem wm_173 rfl, jTB_mem wm_174 rfl⟩
theorem oi_X0 : jOI RX0 3 := ⟨jTB_mem wm_488 rfl, jTB_mem wm_173 rfl, jTB_mem wm_174 rfl⟩
theorem oi_X3 : jOI RX3 3 := ⟨jTB_mem wm_514 rfl, jTB_mem wm_173 rfl, jTB_mem wm_174 rfl⟩
theorem oi_X10 : jOI RX10 76 := ⟨jTB_mem wm_1517 rfl, jTB_mem wm_173 rfl, jTB_mem wm_174 rfl⟩
theorem nw_X9_20 : Cond.classLink RX9 20 RX1 ∈ jTB ∧ Cond.instantiable RX1 8 ∈ jTB ∧ Cond.initialized RX1 ∈ jTB := ⟨jTB_mem wm_175 rfl, jTB_mem wm_176 rfl, jTB_mem wm_142 rfl⟩
theorem nw_X1_19 : Cond.classLink RX1 19 RX2 ∈ jTB ∧ Cond.instantiable RX2 4 ∈ jTB ∧ Cond.initialized RX2 ∈ jTB := ⟨jTB_mem wm_181 rfl, jTB_mem wm_182 rfl, jTB_mem wm_143 rfl⟩
theorem nw_X1_34 : Cond.classLink RX1 34 RX5 ∈ jTB ∧ Cond.instantiable RX5 7 ∈ jTB ∧ Cond.initialized RX5 ∈ jTB := ⟨jTB_mem wm_204 rfl, jTB_mem wm_205 rfl, jTB_mem wm_144 rfl⟩
theorem nw_X1_44 : Cond.classLink RX1 44 RX6 ∈ jTB ∧ Cond.instantiable RX6 8 ∈ jTB ∧ Cond.initialized RX6 ∈ jTB := ⟨jTB_mem wm_235 rfl, jTB_mem wm_242 rfl, jTB_mem wm_146 rfl⟩
theorem nw_X9_30 : Cond.classLink RX9 30 RX4 ∈ jTB ∧ Cond.instantiable RX4 9 ∈ jTB ∧ Cond.initialized RX4 ∈ jTB := ⟨jTB_mem wm_357 rfl, jTB_mem wm_358 rfl, jTB_mem wm_147 rfl⟩
theorem nw_X9_39 : Cond.classLink RX9 39 RX7 ∈ jTB ∧ Cond.instantiable RX7 7 ∈ jTB ∧ Cond.initialized RX7 ∈ jTB := ⟨jTB_mem wm_391 rfl, jTB_mem wm_392 rfl, jTB_mem wm_148 rfl⟩
theorem nw_X7_9 : Cond.classLink RX7 9 RX8 ∈ jTB ∧ Cond.instantiable RX8 15 ∈ jTB ∧ Cond.initialized RX8 ∈ jTB := ⟨jTB_mem wm_397 rfl, jTB_mem wm_399 rfl, jTB_mem wm_149 rfl⟩
theorem nw_X9_48 : Cond.classLink RX9 48 RX0 ∈ jTB ∧ Cond.instantiable RX0 6 ∈ jTB ∧ Cond.initialized RX0 ∈ jTB := ⟨jTB_mem wm_483 rfl, jTB_mem wm_484 rfl, jTB_mem wm_150 rfl⟩
theorem nw_X9_55 : Cond.classLink RX9 55 RX3 ∈ jTB ∧ Cond.instantiable RX3 2 ∈ jTB ∧ Cond.initialized RX3 ∈ jTB := ⟨jTB_mem wm_509 rfl, jTB_mem wm_510 rfl, jTB_mem wm_151 rfl⟩
theorem nw_L_8 : Cond.classLink RL 8 RX9 ∈ jTB ∧ Cond.instantiable RX9 9 ∈ jTB ∧ Cond.initialized RX9 ∈ jTB := ⟨jTB_mem wm_167 rfl, jTB_mem wm_168 rfl, jTB_mem wm_141 rfl⟩
theorem nw_L_124 : Cond.classLink RL 124 RX10 ∈ jTB ∧ Cond.instantiable RX10 32 ∈ jTB ∧ Cond.initialized RX10 ∈ jTB := ⟨jTB_mem wm_1512 rfl, jTB_mem wm_1513 rfl, jTB_mem wm_152 rfl⟩
theorem fd_X9_9 : jFD RX9 9 9 0 := ⟨RX9, TX9, 9, rfl, rfl, jTB_mem wm_524 rfl⟩
theorem fd_X1_15 : jFD RX1 15 1 1 := ⟨RX1, TX1, 8, rfl, rfl, jTB_mem wm_306 rfl⟩
theorem fd_X2_15 : jFD RX2 15 2 0 := ⟨RX2, TX2, 4, rfl, rfl, jTB_mem wm_187 rfl⟩
theorem fd_X2_18 : jFD RX2 18 2 1 := ⟨RX2, TX2, 4, rfl, rfl, jTB_mem wm_188 rfl⟩
theorem fd_X2_22 : jFD RX2 22 2 2 := ⟨RX2, TX2, 4, rfl, rfl, jTB_mem wm_189 rfl⟩
theorem fd_X1_24 : jFD RX1 24 1 2 := ⟨RX1, TX1, 8, rfl, rfl, jTB_mem wm_311 rfl⟩
theorem fd_X1_28 : jFD RX1 28 1 3 := ⟨RX1, TX1, 8, rfl, rfl, jTB_mem wm_315 rfl⟩
theorem fd_X1_31 : jFD RX1 31 1 4 := ⟨RX1, TX1, 8, rfl, rfl, jTB_mem wm_320 rfl⟩
theorem fd_X5_18 : jFD RX5 18 5 2 := ⟨RX5, TX5, 7, rfl, rfl, jTB_mem wm_215 rfl⟩
theorem fd_X5_22 : jFD RX5 22 5 3 := ⟨RX5, TX5, 7, rfl, rfl, jTB_mem wm_216 rfl⟩
theorem fd_X5_25 : jFD RX5 25 5 4 := ⟨RX5, TX5, 7, rfl, rfl, jTB_mem wm_217 rfl⟩
theorem fd_X5_28 : jFD RX5 28 5 5 := ⟨RX5, TX5, 7, rfl, rfl, jTB_mem wm_218 rfl⟩
theorem fd_X5_31 : jFD RX5 31 5 6 := ⟨RX5, TX5, 7, rfl, rfl, jTB_mem wm_219 rfl⟩
theorem fd_X1_37 : jFD RX1 37 1 5 := ⟨RX1, TX1, 8, rfl, rfl, jTB_mem wm_324 rfl⟩
theorem fd_X1_41 : jFD RX1 41 1 6 := ⟨RX1, TX1, 8, rfl, rfl, jTB_mem wm_328 rfl⟩
theorem fd_X1_46 : jFD RX1 46 1 7 := ⟨RX1, TX1, 8, rfl, rfl, jTB_mem wm_333 rfl⟩
theorem fd_X6_21 : jFD RX6 21 6 3 := ⟨RX6, TX6, 8, rfl, rfl, jTB_mem wm_259 rfl⟩
theorem fd_X6_25 : jFD RX6 25 6 4 := ⟨RX6, TX6, 8, rfl, rfl, jTB_mem wm_263 rfl⟩
theorem fd_X6_28 : jFD RX6 28 6 5 := ⟨RX6, TX6, 8, rfl, rfl, jTB_mem wm_268 rfl⟩
theorem fd_X6_31 : jFD RX6 31 6 6 := ⟨RX6, TX6, 8, rfl, rfl, jTB_mem wm_272 rfl⟩
theorem fd_X6_34 : jFD RX6 34 6 7 := ⟨RX6, TX6, 8, rfl, rfl, jTB_mem wm_278 rfl⟩
theorem fd_X4_34 : jFD RX4 34 4 0 := ⟨RX4, TX4, 9, rfl, rfl, jTB_mem wm_363 rfl⟩
theorem fd_X9_35 : jFD RX9 35 9 5 := ⟨RX9, TX9, 9, rfl, rfl, jTB_mem wm_529 rfl⟩
theorem fd_X7_11 : jFD RX7 11 7 1 := ⟨RX7, TX7, 7, rfl, rfl, jTB_mem wm_460 rfl⟩
theorem fd_X7_17 : jFD RX7 17 7 2 := ⟨RX7, TX7, 7, rfl, rfl, jTB_mem wm_462 rfl⟩
theorem fd_X7_21 : jFD RX7 21 7 3 := ⟨RX7, TX7, 7, rfl, rfl, jTB_mem wm_463 rfl⟩
theorem fd_X7_24 : jFD RX7 24 7 4 := ⟨RX7, TX7, 7, rfl, rfl, jTB_mem wm_464 rfl⟩
theorem fd_X7_27 : jFD RX7 27 7 5 := ⟨RX7, TX7, 7, rfl, rfl, jTB_mem wm_466 rfl⟩
theorem fd_X7_30 : jFD RX7 30 7 6 := ⟨RX7, TX7, 7, rfl, rfl, jTB_mem wm_467 rfl⟩
theorem fd_X8_33 : jFD RX8 33 8 9 := ⟨RX8, TX8, 15, rfl, rfl, jTB_mem wm_420 rfl⟩
theorem fd_X8_37 : jFD RX8 37 8 10 := ⟨RX8, TX8, 15, rfl, rfl, jTB_mem wm_422 rfl⟩
theorem fd_X8_40 : jFD RX8 40 8 11 := ⟨RX8, TX8, 15, rfl, rfl, jTB_mem wm_423 rfl⟩
theorem fd_X8_45 : jFD RX8 45 8 12 := ⟨RX8, TX8, 15, rfl, rfl, jTB_mem wm_424 rfl⟩
theorem fd_X8_48 : jFD RX8 48 8 13 := ⟨RX8, TX8, 15, rfl, rfl, jTB_mem wm_426 rfl⟩
theorem fd_X8_51 : jFD RX8 51 8 14 := ⟨RX8, TX8, 15, rfl, rfl, jTB_mem wm_427 rfl⟩
theorem fd_X9_44 : jFD RX9 44 9 6 := ⟨RX9, TX9, 9, rfl, rfl, jTB_mem wm_530 rfl⟩
theorem fd_X0_18 : jFD RX0 18 0 2 := ⟨RX0, TX0, 6, rfl, rfl, jTB_mem wm_492 rfl⟩
theorem fd_X0_22 : jFD RX0 22 0 3 := ⟨RX0, TX0, 6, rfl, rfl, jTB_mem wm_493 rfl⟩
theorem fd_X0_25 : jFD RX0 25 0 4 := ⟨RX0, TX0, 6, rfl, rfl, jTB_mem wm_494 rfl⟩
theorem fd_X0_28 : jFD RX0 28 0 5 := ⟨RX0, TX0, 6, rfl, rfl, jTB_mem wm_495 rfl⟩
theorem fd_X9_51 : jFD RX9 51 9 7 := ⟨RX9, TX9, 9, rfl, rfl, jTB_mem wm_531 rfl⟩
theorem fd_X3_9 : jFD RX3 9 3 0 := ⟨RX3, TX3, 2, rfl, rfl, jTB_mem wm_515 rfl⟩
theorem fd_X9_58 : jFD RX9 58 9 8 := ⟨RX9, TX9, 9, rfl, rfl, jTB_mem wm_532 rfl⟩
theorem fd_X10_14 : jFD RX10 14 10 1 := ⟨RX10, TX10, 32, rfl, rfl, jTB_mem wm_1527 rfl⟩
theorem fd_X10_10 : jFD RX10 10 10 3 := ⟨RX10, TX10, 32, rfl, rfl, jTB_mem wm_1529 rfl⟩
theorem fd_X10_81 : jFD RX10 81 10 9 := ⟨RX10, TX10, 32, rfl, rfl, jTB_mem wm_1535 rfl⟩
theorem fd_X10_84 : jFD RX10 84 10 10 := ⟨RX10, TX10, 32, rfl, rfl, jTB_mem wm_1536 rfl⟩
theorem fd_X10_87 : jFD RX10 87 10 11 := ⟨RX10, TX10, 32, rfl, rfl, jTB_mem wm_1537 rfl⟩
theorem fd_X10_90 : jFD RX10 90 10 12 := ⟨RX10, TX10, 32, rfl, rfl, jTB_mem wm_1538 rfl⟩
theorem fd_X10_93 : jFD RX10 93 10 23 := ⟨RX10, TX10, 32, rfl, rfl, jTB_mem wm_1549 rfl⟩
theorem fd_X10_96 : jFD RX10 96 10 24 := ⟨RX10, TX10, 32, rfl, rfl, jTB_mem wm_1550 rfl⟩
theorem fd_X10_100 : jFD RX10 100 10 25 := ⟨RX10, TX10, 32, rfl, rfl, jTB_mem wm_1551 rfl⟩
theorem fd_X10_103 : jFD RX10 103 10 26 := ⟨RX10, TX10, 32, rfl, rfl, jTB_mem wm_1552 rfl⟩
theorem fd_X10_106 : jFD RX10 106 10 27 := ⟨RX10, TX10, 32, rfl, rfl, jTB_mem wm_1553 rfl⟩
theorem fd_X10_109 : jFD RX10 109 10 28 := ⟨RX10, TX10, 32, rfl, rfl, jTB_mem wm_1554 rfl⟩
theorem fd_X10_112 : jFD RX10 112 10 30 := ⟨RX10, TX10, 32, rfl, rfl, jTB_mem wm_1556 rfl⟩
