/-! ===== the law's 42 cases; by program ===== -/
theorem jRo.sub {C : jC} {a b c9 d9 : Nat} (h : jRo C a b) (h1 : c9 ≤ a) (h2 : d9 ≤ b) : jRo C c9 d9 := ⟨Nat.le_trans h1 h.1, Nat.le_trans h2 h.2⟩
theorem x_sa {C : jC} {X : jX} {own : String} {cc : ByteArray} {n nL d kc ks pc : Nat} {ls st : List jV} {M : jM} (hC : jOk C X own cc nL n d) (hSc : jSc C X) {i a : Int} (hi : 0 ≤ jw i ∧ jw i < ((jXs X).2.1 : Nat)) (ha : jsx X (jw i) = a) (hd : decode cc pc = .ok (.iaload, 1)) (k : jG C X n nL kc ks (pc + 1) ls (jI a :: st) M) : jG C X n nL kc ks pc ls (jI i :: (4, 0) :: st) M := by
  subst ha
  exact x_sald hC hSc hi hd k
theorem wm_140 : Cond.initialized "IceJudgeLaw" ∈ lw_tbl := List.mem_append_right _ (List.mem_append_left _ (List.mem_of_getElem? (i := 0) (by decide +kernel : tables_1_1[0]? = some (Cond.initialized "IceJudgeLaw"))))
theorem wm_764 : Cond.methodLink "IceJudgeLaw" 137 yL_read ∈ lw_tbl := List.mem_append_right _ (List.mem_append_right _ (List.mem_append_right _ (List.mem_append_left _ (List.mem_of_getElem? (i := 144) (by decide +kernel : tables_1_3[144]? = some (Cond.methodLink "IceJudgeLaw" 137 yL_read))))))
theorem wm_765 : Cond.static yL_read ∈ lw_tbl := List.mem_append_right _ (List.mem_append_right _ (List.mem_append_right _ (List.mem_append_left _ (List.mem_of_getElem? (i := 145) (by decide +kernel : tables_1_3[145]? = some (Cond.static yL_read))))))
theorem wm_766 : Cond.codeWith yL_read cL_read 3 (some .int) [(0, 8, 11, 13)] ∈ lw_tbl := List.mem_append_right _ (List.mem_append_right _ (List.mem_append_right _ (List.mem_append_left _ (List.mem_of_getElem? (i := 146) (by decide +kernel : tables_1_3[146]? = some (Cond.codeWith yL_read cL_read 3 (some .int) [(0, 8, 11, 13)]))))))
theorem wm_1044 : Cond.methodLink "IceJudgeLaw" 150 yL_name ∈ lw_tbl := List.mem_append_right _ (List.mem_append_right _ (List.mem_append_right _ (List.mem_append_right _ (List.mem_append_left _ (List.mem_of_getElem? (i := 184) (by decide +kernel : tables_1_4[184]? = some (Cond.methodLink "IceJudgeLaw" 150 yL_name)))))))
theorem wm_1045 : Cond.static yL_name ∈ lw_tbl := List.mem_append_right _ (List.mem_append_right _ (List.mem_append_right _ (List.mem_append_right _ (List.mem_append_left _ (List.mem_of_getElem? (i := 185) (by decide +kernel : tables_1_4[185]? = some (Cond.static yL_name)))))))
theorem wm_1046 : Cond.codeWith yL_name cL_name 6 (some .int) [(0, 12, 15, 19)] ∈ lw_tbl := List.mem_append_right _ (List.mem_append_right _ (List.mem_append_right _ (List.mem_append_right _ (List.mem_append_left _ (List.mem_of_getElem? (i := 186) (by decide +kernel : tables_1_4[186]? = some (Cond.codeWith yL_name cL_name 6 (some .int) [(0, 12, 15, 19)])))))))
theorem wm_1081 : Cond.methodLink "IceJudgeLaw" 154 yL_element ∈ lw_tbl := List.mem_append_right _ (List.mem_append_right _ (List.mem_append_right _ (List.mem_append_right _ (List.mem_append_left _ (List.mem_of_getElem? (i := 221) (by decide +kernel : tables_1_4[221]? = some (Cond.methodLink "IceJudgeLaw" 154 yL_element)))))))
theorem wm_1082 : Cond.static yL_element ∈ lw_tbl := List.mem_append_right _ (List.mem_append_right _ (List.mem_append_right _ (List.mem_append_right _ (List.mem_append_left _ (List.mem_of_getElem? (i := 222) (by decide +kernel : tables_1_4[222]? = some (Cond.static yL_element)))))))
theorem wm_1083 : Cond.codeWith yL_element cL_element 5 (some .int) [(0, 10, 13, 19), (0, 10, 17, 25)] ∈ lw_tbl := List.mem_append_right _ (List.mem_append_right _ (List.mem_append_right _ (List.mem_append_right _ (List.mem_append_left _ (List.mem_of_getElem? (i := 223) (by decide +kernel : tables_1_4[223]? = some (Cond.codeWith yL_element cL_element 5 (some .int) [(0, 10, 13, 19), (0, 10, 17, 25)])))))))
theorem wm_1105 : Cond.methodLink "IceJudgeLaw" 158 yL_attempt ∈ lw_tbl := List.mem_append_right _ (List.mem_append_right _ (List.mem_append_right _ (List.mem_append_right _ (List.mem_append_right _ (List.mem_append_left _ (List.mem_of_getElem? (i := 5) (by decide +kernel : tables_1_5[5]? = some (Cond.methodLink "IceJudgeLaw" 158 yL_attempt))))))))
theorem wm_1106 : Cond.static yL_attempt ∈ lw_tbl := List.mem_append_right _ (List.mem_append_right _ (List.mem_append_right _ (List.mem_append_right _ (List.mem_append_right _ (List.mem_append_left _ (List.mem_of_getElem? (i := 6) (by decide +kernel : tables_1_5[6]? = some (Cond.static yL_attempt))))))))
theorem wm_1107 : Cond.codeWith yL_attempt cL_attempt 6 (some .int) [(0, 12, 15, 19), (0, 12, 19, 25)] ∈ lw_tbl := List.mem_append_right _ (List.mem_append_right _ (List.mem_append_right _ (List.mem_append_right _ (List.mem_append_right _ (List.mem_append_left _ (List.mem_of_getElem? (i := 7) (by decide +kernel : tables_1_5[7]? = some (Cond.codeWith yL_attempt cL_attempt 6 (some .int) [(0, 12, 15, 19), (0, 12, 19, 25)]))))))))
theorem wm_1140 : Cond.methodLink "IceJudgeLaw" 162 yL_grade ∈ lw_tbl := List.mem_append_right _ (List.mem_append_right _ (List.mem_append_right _ (List.mem_append_right _ (List.mem_append_right _ (List.mem_append_left _ (List.mem_of_getElem? (i := 40) (by decide +kernel : tables_1_5[40]? = some (Cond.methodLink "IceJudgeLaw" 162 yL_grade))))))))
theorem wm_1141 : Cond.static yL_grade ∈ lw_tbl := List.mem_append_right _ (List.mem_append_right _ (List.mem_append_right _ (List.mem_append_right _ (List.mem_append_right _ (List.mem_append_left _ (List.mem_of_getElem? (i := 41) (by decide +kernel : tables_1_5[41]? = some (Cond.static yL_grade))))))))
theorem wm_1142 : Cond.codeWith yL_grade cL_grade 6 (some .int) [(0, 12, 15, 19)] ∈ lw_tbl := List.mem_append_right _ (List.mem_append_right _ (List.mem_append_right _ (List.mem_append_right _ (List.mem_append_right _ (List.mem_append_left _ (List.mem_of_getElem? (i := 42) (by decide +kernel : tables_1_5[42]? = some (Cond.codeWith yL_grade cL_grade 6 (some .int) [(0, 12, 15, 19)]))))))))
theorem wm_1153 : Cond.methodLink "IceJudgeLaw" 165 yL_mean ∈ lw_tbl := List.mem_append_right _ (List.mem_append_right _ (List.mem_append_right _ (List.mem_append_right _ (List.mem_append_right _ (List.mem_append_left _ (List.mem_of_getElem? (i := 53) (by decide +kernel : tables_1_5[53]? = some (Cond.methodLink "IceJudgeLaw" 165 yL_mean))))))))
theorem wm_1154 : Cond.static yL_mean ∈ lw_tbl := List.mem_append_right _ (List.mem_append_right _ (List.mem_append_right _ (List.mem_append_right _ (List.mem_append_right _ (List.mem_append_left _ (List.mem_of_getElem? (i := 54) (by decide +kernel : tables_1_5[54]? = some (Cond.static yL_mean))))))))
theorem wm_1155 : Cond.codeWith yL_mean cL_mean 5 (some .int) [(0, 10, 13, 19)] ∈ lw_tbl := List.mem_append_right _ (List.mem_append_right _ (List.mem_append_right _ (List.mem_append_right _ (List.mem_append_right _ (List.mem_append_left _ (List.mem_of_getElem? (i := 55) (by decide +kernel : tables_1_5[55]? = some (Cond.codeWith yL_mean cL_mean 5 (some .int) [(0, 10, 13, 19)]))))))))
theorem wm_1161 : Cond.methodLink "IceJudgeLaw" 168 yL_mark ∈ lw_tbl := List.mem_append_right _ (List.mem_append_right _ (List.mem_append_right _ (List.mem_append_right _ (List.mem_append_right _ (List.mem_append_left _ (List.mem_of_getElem? (i := 61) (by decide +kernel : tables_1_5[61]? = some (Cond.methodLink "IceJudgeLaw" 168 yL_mark))))))))
theorem wm_1162 : Cond.static yL_mark ∈ lw_tbl := List.mem_append_right _ (List.mem_append_right _ (List.mem_append_right _ (List.mem_append_right _ (List.mem_append_right _ (List.mem_append_left _ (List.mem_of_getElem? (i := 62) (by decide +kernel : tables_1_5[62]? = some (Cond.static yL_mark))))))))
theorem wm_1163 : Cond.codeWith yL_mark cL_mark 6 (some .int) [(0, 12, 15, 19)] ∈ lw_tbl := List.mem_append_right _ (List.mem_append_right _ (List.mem_append_right _ (List.mem_append_right _ (List.mem_append_right _ (List.mem_append_left _ (List.mem_of_getElem? (i := 63) (by decide +kernel : tables_1_5[63]? = some (Cond.codeWith yL_mark cL_mark 6 (some .int) [(0, 12, 15, 19)]))))))))
theorem wm_1176 : Cond.methodLink "IceJudgeLaw" 171 yL_component ∈ lw_tbl := List.mem_append_right _ (List.mem_append_right _ (List.mem_append_right _ (List.mem_append_right _ (List.mem_append_right _ (List.mem_append_left _ (List.mem_of_getElem? (i := 76) (by decide +kernel : tables_1_5[76]? = some (Cond.methodLink "IceJudgeLaw" 171 yL_component))))))))
theorem wm_1177 : Cond.static yL_component ∈ lw_tbl := List.mem_append_right _ (List.mem_append_right _ (List.mem_append_right _ (List.mem_append_right _ (List.mem_append_right _ (List.mem_append_left _ (List.mem_of_getElem? (i := 77) (by decide +kernel : tables_1_5[77]? = some (Cond.static yL_component))))))))
theorem wm_1178 : Cond.codeWith yL_component cL_component 5 (some .int) [(0, 10, 13, 19)] ∈ lw_tbl := List.mem_append_right _ (List.mem_append_right _ (List.mem_append_right _ (List.mem_append_right _ (List.mem_append_right _ (List.mem_append_left _ (List.mem_of_getElem? (i := 78) (by decide +kernel : tables_1_5[78]? = some (Cond.codeWith yL_component cL_component 5 (some .int) [(0, 10, 13, 19)]))))))))
theorem wm_1184 : Cond.methodLink "IceJudgeLaw" 174 yL_total ∈ lw_tbl := List.mem_append_right _ (List.mem_append_right _ (List.mem_append_right _ (List.mem_append_right _ (List.mem_append_right _ (List.mem_append_left _ (List.mem_of_getElem? (i := 84) (by decide +kernel : tables_1_5[84]? = some (Cond.methodLink "IceJudgeLaw" 174 yL_total))))))))
theorem wm_1185 : Cond.static yL_total ∈ lw_tbl := List.mem_append_right _ (List.mem_append_right _ (List.mem_append_right _ (List.mem_append_right _ (List.mem_append_right _ (List.mem_append_left _ (List.mem_of_getElem? (i := 85) (by decide +kernel : tables_1_5[85]? = some (Cond.static yL_total))))))))
theorem wm_1186 : Cond.codeWith yL_total cL_total 5 (some .int) [(0, 10, 13, 19), (0, 10, 17, 25)] ∈ lw_tbl := List.mem_append_right _ (List.mem_append_right _ (List.mem_append_right _ (List.mem_append_right _ (List.mem_append_right _ (List.mem_append_left _ (List.mem_of_getElem? (i := 86) (by decide +kernel : tables_1_5[86]? = some (Cond.codeWith yL_total cL_total 5 (some .int) [(0, 10, 13, 19), (0, 10, 17, 25)]))))))))
theorem wm_1192 : Cond.methodLink "IceJudgeLaw" 177 yL_rule ∈ lw_tbl := List.mem_append_right _ (List.mem_append_right _ (List.mem_append_right _ (List.mem_append_right _ (List.mem_append_right _ (List.mem_append_left _ (List.mem_of_getElem? (i := 92) (by decide +kernel : tables_1_5[92]? = some (Cond.methodLink "IceJudgeLaw" 177 yL_rule))))))))
theorem wm_1193 : Cond.static yL_rule ∈ lw_tbl := List.mem_append_right _ (List.mem_append_right _ (List.mem_append_right _ (List.mem_append_right _ (List.mem_append_right _ (List.mem_append_left _ (List.mem_of_getElem? (i := 93) (by decide +kernel : tables_1_5[93]? = some (Cond.static yL_rule))))))))
theorem wm_1194 : Cond.codeWith yL_rule cL_rule 5 (some .int) [(0, 10, 13, 19), (0, 10, 17, 25)] ∈ lw_tbl := List.mem_append_right _ (List.mem_append_right _ (List.mem_append_right _ (List.mem_append_right _ (List.mem_append_right _ (List.mem_append_left _ (List.mem_of_getElem? (i := 94) (by decide +kernel : tables_1_5[94]? = some (Cond.codeWith yL_rule cL_rule 5 (some .int) [(0, 10, 13, 19), (0, 10, 17, 25)]))))))))
theorem wm_1201 : Cond.methodLink "IceJudgeLaw" 180 yL_rank ∈ lw_tbl := List.mem_append_right _ (List.mem_append_right _ (List.mem_append_right _ (List.mem_append_right _ (List.mem_append_right _ (List.mem_append_left _ (List.mem_of_getElem? (i := 101) (by decide +kernel : tables_1_5[101]? = some (Cond.methodLink "IceJudgeLaw" 180 yL_rank))))))))
theorem wm_1202 : Cond.static yL_rank ∈ lw_tbl := List.mem_append_right _ (List.mem_append_right _ (List.mem_append_right _ (List.mem_append_right _ (List.mem_append_right _ (List.mem_append_left _ (List.mem_of_getElem? (i := 102) (by decide +kernel : tables_1_5[102]? = some (Cond.static yL_rank))))))))
theorem wm_1203 : Cond.codeWith yL_rank cL_rank 4 (some .int) [(0, 9, 12, 19)] ∈ lw_tbl := List.mem_append_right _ (List.mem_append_right _ (List.mem_append_right _ (List.mem_append_right _ (List.mem_append_right _ (List.mem_append_left _ (List.mem_of_getElem? (i := 103) (by decide +kernel : tables_1_5[103]? = some (Cond.codeWith yL_rank cL_rank 4 (some .int) [(0, 9, 12, 19)]))))))))
theorem wm_1209 : Cond.methodLink "IceJudgeLaw" 188 yL_tell ∈ lw_tbl := List.mem_append_right _ (List.mem_append_right _ (List.mem_append_right _ (List.mem_append_right _ (List.mem_append_right _ (List.mem_append_left _ (List.mem_of_getElem? (i := 109) (by decide +kernel : tables_1_5[109]? = some (Cond.methodLink "IceJudgeLaw" 188 yL_tell))))))))
theorem wm_1210 : Cond.static yL_tell ∈ lw_tbl := List.mem_append_right _ (List.mem_append_right _ (List.mem_append_right _ (List.mem_append_right _ (List.mem_append_right _ (List.mem_append_left _ (List.mem_of_getElem? (i := 110) (by decide +kernel : tables_1_5[110]? = some (Cond.static yL_tell))))))))
theorem wm_1211 : Cond.codeWith yL_tell cL_tell 7 (some .int) [(0, 14, 17, 19), (0, 14, 21, 13)] ∈ lw_tbl := List.mem_append_right _ (List.mem_append_right _ (List.mem_append_right _ (List.mem_append_right _ (List.mem_append_right _ (List.mem_append_left _ (List.mem_of_getElem? (i := 111) (by decide +kernel : tables_1_5[111]? = some (Cond.codeWith yL_tell cL_tell 7 (some .int) [(0, 14, 17, 19), (0, 14, 21, 13)]))))))))
theorem wm_1226 : Cond.methodLink "IceJudgeLaw" 192 yL_show ∈ lw_tbl := List.mem_append_right _ (List.mem_append_right _ (List.mem_append_right _ (List.mem_append_right _ (List.mem_append_right _ (List.mem_append_left _ (List.mem_of_getElem? (i := 126) (by decide +kernel : tables_1_5[126]? = some (Cond.methodLink "IceJudgeLaw" 192 yL_show))))))))
theorem wm_1227 : Cond.static yL_show ∈ lw_tbl := List.mem_append_right _ (List.mem_append_right _ (List.mem_append_right _ (List.mem_append_right _ (List.mem_append_right _ (List.mem_append_left _ (List.mem_of_getElem? (i := 127) (by decide +kernel : tables_1_5[127]? = some (Cond.static yL_show))))))))
theorem wm_1228 : Cond.codeWith yL_show cL_show 7 (some .int) [(0, 14, 17, 19), (0, 14, 21, 13)] ∈ lw_tbl := List.mem_append_right _ (List.mem_append_right _ (List.mem_append_right _ (List.mem_append_right _ (List.mem_append_right _ (List.mem_append_left _ (List.mem_of_getElem? (i := 128) (by decide +kernel : tables_1_5[128]? = some (Cond.codeWith yL_show cL_show 7 (some .int) [(0, 14, 17, 19), (0, 14, 21, 13)]))))))))
theorem wm_1234 : Cond.methodLink "IceJudgeLaw" 195 yL_call ∈ lw_tbl := List.mem_append_right _ (List.mem_append_right _ (List.mem_append_right _ (List.mem_append_right _ (List.mem_append_right _ (List.mem_append_left _ (List.mem_of_getElem? (i := 134) (by decide +kernel : tables_1_5[134]? = some (Cond.methodLink "IceJudgeLaw" 195 yL_call))))))))
theorem wm_1235 : Cond.static yL_call ∈ lw_tbl := List.mem_append_right _ (List.mem_append_right _ (List.mem_append_right _ (List.mem_append_right _ (List.mem_append_right _ (List.mem_append_left _ (List.mem_of_getElem? (i := 135) (by decide +kernel : tables_1_5[135]? = some (Cond.static yL_call))))))))
theorem wm_1236 : Cond.codeWith yL_call cL_call 7 (some .int) [(0, 21, 24, 19), (0, 21, 28, 13)] ∈ lw_tbl := List.mem_append_right _ (List.mem_append_right _ (List.mem_append_right _ (List.mem_append_right _ (List.mem_append_right _ (List.mem_append_left _ (List.mem_of_getElem? (i := 136) (by decide +kernel : tables_1_5[136]? = some (Cond.codeWith yL_call cL_call 7 (some .int) [(0, 21, 24, 19), (0, 21, 28, 13)]))))))))
theorem wm_1242 : Cond.methodLink "IceJudgeLaw" 199 yL_base ∈ lw_tbl := List.mem_append_right _ (List.mem_append_right _ (List.mem_append_right _ (List.mem_append_right _ (List.mem_append_right _ (List.mem_append_left _ (List.mem_of_getElem? (i := 142) (by decide +kernel : tables_1_5[142]? = some (Cond.methodLink "IceJudgeLaw" 199 yL_base))))))))
theorem wm_1243 : Cond.static yL_base ∈ lw_tbl := List.mem_append_right _ (List.mem_append_right _ (List.mem_append_right _ (List.mem_append_right _ (List.mem_append_right _ (List.mem_append_left _ (List.mem_of_getElem? (i := 143) (by decide +kernel : tables_1_5[143]? = some (Cond.static yL_base))))))))
theorem wm_1244 : Cond.codeWith yL_base cL_base 5 (some .int) [(0, 10, 13, 19), (0, 10, 17, 13)] ∈ lw_tbl := List.mem_append_right _ (List.mem_append_right _ (List.mem_append_right _ (List.mem_append_right _ (List.mem_append_right _ (List.mem_append_left _ (List.mem_of_getElem? (i := 144) (by decide +kernel : tables_1_5[144]? = some (Cond.codeWith yL_base cL_base 5 (some .int) [(0, 10, 13, 19), (0, 10, 17, 13)]))))))))
theorem wm_1250 : Cond.methodLink "IceJudgeLaw" 202 yL_set ∈ lw_tbl := List.mem_append_right _ (List.mem_append_right _ (List.mem_append_right _ (List.mem_append_right _ (List.mem_append_right _ (List.mem_append_left _ (List.mem_of_getElem? (i := 150) (by decide +kernel : tables_1_5[150]? = some (Cond.methodLink "IceJudgeLaw" 202 yL_set))))))))
theorem wm_1251 : Cond.static yL_set ∈ lw_tbl := List.mem_append_right _ (List.mem_append_right _ (List.mem_append_right _ (List.mem_append_right _ (List.mem_append_right _ (List.mem_append_left _ (List.mem_of_getElem? (i := 151) (by decide +kernel : tables_1_5[151]? = some (Cond.static yL_set))))))))
theorem wm_1252 : Cond.codeWith yL_set cL_set 5 (some .int) [(0, 10, 13, 25), (0, 10, 17, 13)] ∈ lw_tbl := List.mem_append_right _ (List.mem_append_right _ (List.mem_append_right _ (List.mem_append_right _ (List.mem_append_right _ (List.mem_append_left _ (List.mem_of_getElem? (i := 152) (by decide +kernel : tables_1_5[152]? = some (Cond.codeWith yL_set cL_set 5 (some .int) [(0, 10, 13, 25), (0, 10, 17, 13)]))))))))
theorem wm_1261 : Cond.methodLink "IceJudgeLaw" 205 yL_scratch ∈ lw_tbl := List.mem_append_right _ (List.mem_append_right _ (List.mem_append_right _ (List.mem_append_right _ (List.mem_append_right _ (List.mem_append_left _ (List.mem_of_getElem? (i := 161) (by decide +kernel : tables_1_5[161]? = some (Cond.methodLink "IceJudgeLaw" 205 yL_scratch))))))))
theorem wm_1262 : Cond.static yL_scratch ∈ lw_tbl := List.mem_append_right _ (List.mem_append_right _ (List.mem_append_right _ (List.mem_append_right _ (List.mem_append_right _ (List.mem_append_left _ (List.mem_of_getElem? (i := 162) (by decide +kernel : tables_1_5[162]? = some (Cond.static yL_scratch))))))))
theorem wm_1263 : Cond.codeWith yL_scratch cL_scratch 5 (some .int) [(0, 10, 13, 19)] ∈ lw_tbl := List.mem_append_right _ (List.mem_append_right _ (List.mem_append_right _ (List.mem_append_right _ (List.mem_append_right _ (List.mem_append_left _ (List.mem_of_getElem? (i := 163) (by decide +kernel : tables_1_5[163]? = some (Cond.codeWith yL_scratch cL_scratch 5 (some .int) [(0, 10, 13, 19)]))))))))
theorem wm_1273 : Cond.methodLink "IceJudgeLaw" 212 yL_bias ∈ lw_tbl := List.mem_append_right _ (List.mem_append_right _ (List.mem_append_right _ (List.mem_append_right _ (List.mem_append_right _ (List.mem_append_left _ (List.mem_of_getElem? (i := 173) (by decide +kernel : tables_1_5[173]? = some (Cond.methodLink "IceJudgeLaw" 212 yL_bias))))))))
theorem wm_1274 : Cond.static yL_bias ∈ lw_tbl := List.mem_append_right _ (List.mem_append_right _ (List.mem_append_right _ (List.mem_append_right _ (List.mem_append_right _ (List.mem_append_left _ (List.mem_of_getElem? (i := 174) (by decide +kernel : tables_1_5[174]? = some (Cond.static yL_bias))))))))
theorem wm_1275 : Cond.codeWith yL_bias cL_bias 4 (some .int) [(0, 9, 12, 19)] ∈ lw_tbl := List.mem_append_right _ (List.mem_append_right _ (List.mem_append_right _ (List.mem_append_right _ (List.mem_append_right _ (List.mem_append_left _ (List.mem_of_getElem? (i := 175) (by decide +kernel : tables_1_5[175]? = some (Cond.codeWith yL_bias cL_bias 4 (some .int) [(0, 9, 12, 19)]))))))))
theorem wm_1281 : Cond.methodLink "IceJudgeLaw" 219 yL_without ∈ lw_tbl := List.mem_append_right _ (List.mem_append_right _ (List.mem_append_right _ (List.mem_append_right _ (List.mem_append_right _ (List.mem_append_left _ (List.mem_of_getElem? (i := 181) (by decide +kernel : tables_1_5[181]? = some (Cond.methodLink "IceJudgeLaw" 219 yL_without))))))))
theorem wm_1282 : Cond.static yL_without ∈ lw_tbl := List.mem_append_right _ (List.mem_append_right _ (List.mem_append_right _ (List.mem_append_right _ (List.mem_append_right _ (List.mem_append_left _ (List.mem_of_getElem? (i := 182) (by decide +kernel : tables_1_5[182]? = some (Cond.static yL_without))))))))
theorem wm_1283 : Cond.codeWith yL_without cL_without 5 (some .int) [(0, 10, 13, 19), (0, 10, 17, 79)] ∈ lw_tbl := List.mem_append_right _ (List.mem_append_right _ (List.mem_append_right _ (List.mem_append_right _ (List.mem_append_right _ (List.mem_append_left _ (List.mem_of_getElem? (i := 183) (by decide +kernel : tables_1_5[183]? = some (Cond.codeWith yL_without cL_without 5 (some .int) [(0, 10, 13, 19), (0, 10, 17, 79)]))))))))
theorem wm_1314 : Cond.methodLink "IceJudgeLaw" 222 yL_sways ∈ lw_tbl := List.mem_append_right _ (List.mem_append_right _ (List.mem_append_right _ (List.mem_append_right _ (List.mem_append_right _ (List.mem_append_left _ (List.mem_of_getElem? (i := 214) (by decide +kernel : tables_1_5[214]? = some (Cond.methodLink "IceJudgeLaw" 222 yL_sways))))))))
theorem wm_1315 : Cond.static yL_sways ∈ lw_tbl := List.mem_append_right _ (List.mem_append_right _ (List.mem_append_right _ (List.mem_append_right _ (List.mem_append_right _ (List.mem_append_left _ (List.mem_of_getElem? (i := 215) (by decide +kernel : tables_1_5[215]? = some (Cond.static yL_sways))))))))
theorem wm_1316 : Cond.codeWith yL_sways cL_sways 4 (some .int) [(0, 9, 12, 19), (0, 9, 15, 79)] ∈ lw_tbl := List.mem_append_right _ (List.mem_append_right _ (List.mem_append_right _ (List.mem_append_right _ (List.mem_append_right _ (List.mem_append_left _ (List.mem_of_getElem? (i := 216) (by decide +kernel : tables_1_5[216]? = some (Cond.codeWith yL_sways cL_sways 4 (some .int) [(0, 9, 12, 19), (0, 9, 15, 79)]))))))))
theorem wm_1325 : Cond.methodLink "IceJudgeLaw" 225 yL_alone ∈ lw_tbl := List.mem_append_right _ (List.mem_append_right _ (List.mem_append_right _ (List.mem_append_right _ (List.mem_append_right _ (List.mem_append_left _ (List.mem_of_getElem? (i := 225) (by decide +kernel : tables_1_5[225]? = some (Cond.methodLink "IceJudgeLaw" 225 yL_alone))))))))
theorem wm_1326 : Cond.static yL_alone ∈ lw_tbl := List.mem_append_right _ (List.mem_append_right _ (List.mem_append_right _ (List.mem_append_right _ (List.mem_append_right _ (List.mem_append_left _ (List.mem_of_getElem? (i := 226) (by decide +kernel : tables_1_5[226]? = some (Cond.static yL_alone))))))))
theorem wm_1327 : Cond.codeWith yL_alone cL_alone 5 (some .int) [(0, 10, 13, 19)] ∈ lw_tbl := List.mem_append_right _ (List.mem_append_right _ (List.mem_append_right _ (List.mem_append_right _ (List.mem_append_right _ (List.mem_append_left _ (List.mem_of_getElem? (i := 227) (by decide +kernel : tables_1_5[227]? = some (Cond.codeWith yL_alone cL_alone 5 (some .int) [(0, 10, 13, 19)]))))))))
theorem wm_1332 : Cond.methodLink "IceJudgeLaw" 228 yL_place ∈ lw_tbl := List.mem_append_right _ (List.mem_append_right _ (List.mem_append_right _ (List.mem_append_right _ (List.mem_append_right _ (List.mem_append_left _ (List.mem_of_getElem? (i := 232) (by decide +kernel : tables_1_5[232]? = some (Cond.methodLink "IceJudgeLaw" 228 yL_place))))))))
theorem wm_1333 : Cond.static yL_place ∈ lw_tbl := List.mem_append_right _ (List.mem_append_right _ (List.mem_append_right _ (List.mem_append_right _ (List.mem_append_right _ (List.mem_append_left _ (List.mem_of_getElem? (i := 233) (by decide +kernel : tables_1_5[233]? = some (Cond.static yL_place))))))))
theorem wm_1334 : Cond.codeWith yL_place cL_place 5 (some .int) [(0, 10, 13, 19)] ∈ lw_tbl := List.mem_append_right _ (List.mem_append_right _ (List.mem_append_right _ (List.mem_append_right _ (List.mem_append_right _ (List.mem_append_left _ (List.mem_of_getElem? (i := 234) (by decide +kernel : tables_1_5[234]? = some (Cond.codeWith yL_place cL_place 5 (some .int) [(0, 10, 13, 19)]))))))))
theorem wm_1340 : Cond.methodLink "IceJudgeLaw" 231 yL_majority ∈ lw_tbl := List.mem_append_right _ (List.mem_append_right _ (List.mem_append_right _ (List.mem_append_right _ (List.mem_append_right _ (List.mem_append_right _ (List.mem_append_left _ (List.mem_of_getElem? (i := 0) (by decide +kernel : tables_1_6[0]? = some (Cond.methodLink "IceJudgeLaw" 231 yL_majority)))))))))
theorem wm_1341 : Cond.static yL_majority ∈ lw_tbl := List.mem_append_right _ (List.mem_append_right _ (List.mem_append_right _ (List.mem_append_right _ (List.mem_append_right _ (List.mem_append_right _ (List.mem_append_left _ (List.mem_of_getElem? (i := 1) (by decide +kernel : tables_1_6[1]? = some (Cond.static yL_majority)))))))))
theorem wm_1342 : Cond.codeWith yL_majority cL_majority 4 (some .int) [(0, 9, 12, 19)] ∈ lw_tbl := List.mem_append_right _ (List.mem_append_right _ (List.mem_append_right _ (List.mem_append_right _ (List.mem_append_right _ (List.mem_append_right _ (List.mem_append_left _ (List.mem_of_getElem? (i := 2) (by decide +kernel : tables_1_6[2]? = some (Cond.codeWith yL_majority cL_majority 4 (some .int) [(0, 9, 12, 19)])))))))))
theorem wm_1347 : Cond.methodLink "IceJudgeLaw" 238 yL_panel ∈ lw_tbl := List.mem_append_right _ (List.mem_append_right _ (List.mem_append_right _ (List.mem_append_right _ (List.mem_append_right _ (List.mem_append_right _ (List.mem_append_left _ (List.mem_of_getElem? (i := 7) (by decide +kernel : tables_1_6[7]? = some (Cond.methodLink "IceJudgeLaw" 238 yL_panel)))))))))
theorem wm_1348 : Cond.static yL_panel ∈ lw_tbl := List.mem_append_right _ (List.mem_append_right _ (List.mem_append_right _ (List.mem_append_right _ (List.mem_append_right _ (List.mem_append_right _ (List.mem_append_left _ (List.mem_of_getElem? (i := 8) (by decide +kernel : tables_1_6[8]? = some (Cond.static yL_panel)))))))))
theorem wm_1349 : Cond.codeWith yL_panel cL_panel 5 (some .int) [(0, 10, 13, 13)] ∈ lw_tbl := List.mem_append_right _ (List.mem_append_right _ (List.mem_append_right _ (List.mem_append_right _ (List.mem_append_right _ (List.mem_append_right _ (List.mem_append_left _ (List.mem_of_getElem? (i := 9) (by decide +kernel : tables_1_6[9]? = some (Cond.codeWith yL_panel cL_panel 5 (some .int) [(0, 10, 13, 13)])))))))))
theorem wm_1364 : Cond.methodLink "IceJudgeLaw" 241 yL_by ∈ lw_tbl := List.mem_append_right _ (List.mem_append_right _ (List.mem_append_right _ (List.mem_append_right _ (List.mem_append_right _ (List.mem_append_right _ (List.mem_append_left _ (List.mem_of_getElem? (i := 24) (by decide +kernel : tables_1_6[24]? = some (Cond.methodLink "IceJudgeLaw" 241 yL_by)))))))))
theorem wm_1365 : Cond.static yL_by ∈ lw_tbl := List.mem_append_right _ (List.mem_append_right _ (List.mem_append_right _ (List.mem_append_right _ (List.mem_append_right _ (List.mem_append_right _ (List.mem_append_left _ (List.mem_of_getElem? (i := 25) (by decide +kernel : tables_1_6[25]? = some (Cond.static yL_by)))))))))
theorem wm_1366 : Cond.codeWith yL_by cL_by 5 (some .int) [(0, 10, 13, 19), (0, 10, 17, 13)] ∈ lw_tbl := List.mem_append_right _ (List.mem_append_right _ (List.mem_append_right _ (List.mem_append_right _ (List.mem_append_right _ (List.mem_append_right _ (List.mem_append_left _ (List.mem_of_getElem? (i := 26) (by decide +kernel : tables_1_6[26]? = some (Cond.codeWith yL_by cL_by 5 (some .int) [(0, 10, 13, 19), (0, 10, 17, 13)])))))))))
theorem wm_1372 : Cond.methodLink "IceJudgeLaw" 244 yL_firsts ∈ lw_tbl := List.mem_append_right _ (List.mem_append_right _ (List.mem_append_right _ (List.mem_append_right _ (List.mem_append_right _ (List.mem_append_right _ (List.mem_append_left _ (List.mem_of_getElem? (i := 32) (by decide +kernel : tables_1_6[32]? = some (Cond.methodLink "IceJudgeLaw" 244 yL_firsts)))))))))
theorem wm_1373 : Cond.static yL_firsts ∈ lw_tbl := List.mem_append_right _ (List.mem_append_right _ (List.mem_append_right _ (List.mem_append_right _ (List.mem_append_right _ (List.mem_append_right _ (List.mem_append_left _ (List.mem_of_getElem? (i := 33) (by decide +kernel : tables_1_6[33]? = some (Cond.static yL_firsts)))))))))
theorem wm_1374 : Cond.codeWith yL_firsts cL_firsts 5 (some .int) [(0, 10, 13, 19), (0, 10, 17, 13)] ∈ lw_tbl := List.mem_append_right _ (List.mem_append_right _ (List.mem_append_right _ (List.mem_append_right _ (List.mem_append_right _ (List.mem_append_right _ (List.mem_append_left _ (List.mem_of_getElem? (i := 34) (by decide +kernel : tables_1_6[34]? = some (Cond.codeWith yL_firsts cL_firsts 5 (some .int) [(0, 10, 13, 19), (0, 10, 17, 13)])))))))))
theorem wm_1384 : Cond.methodLink "IceJudgeLaw" 247 yL_needed ∈ lw_tbl := List.mem_append_right _ (List.mem_append_right _ (List.mem_append_right _ (List.mem_append_right _ (List.mem_append_right _ (List.mem_append_right _ (List.mem_append_left _ (List.mem_of_getElem? (i := 44) (by decide +kernel : tables_1_6[44]? = some (Cond.methodLink "IceJudgeLaw" 247 yL_needed)))))))))
theorem wm_1385 : Cond.static yL_needed ∈ lw_tbl := List.mem_append_right _ (List.mem_append_right _ (List.mem_append_right _ (List.mem_append_right _ (List.mem_append_right _ (List.mem_append_right _ (List.mem_append_left _ (List.mem_of_getElem? (i := 45) (by decide +kernel : tables_1_6[45]? = some (Cond.static yL_needed)))))))))
theorem wm_1386 : Cond.codeWith yL_needed cL_needed 5 (some .int) [(0, 10, 13, 19), (0, 10, 17, 13)] ∈ lw_tbl := List.mem_append_right _ (List.mem_append_right _ (List.mem_append_right _ (List.mem_append_right _ (List.mem_append_right _ (List.mem_append_right _ (List.mem_append_left _ (List.mem_of_getElem? (i := 46) (by decide +kernel : tables_1_6[46]? = some (Cond.codeWith yL_needed cL_needed 5 (some .int) [(0, 10, 13, 19), (0, 10, 17, 13)])))))))))
theorem wm_1405 : Cond.methodLink "IceJudgeLaw" 250 yL_raise ∈ lw_tbl := List.mem_append_right _ (List.mem_append_right _ (List.mem_append_right _ (List.mem_append_right _ (List.mem_append_right _ (List.mem_append_right _ (List.mem_append_left _ (List.mem_of_getElem? (i := 65) (by decide +kernel : tables_1_6[65]? = some (Cond.methodLink "IceJudgeLaw" 250 yL_raise)))))))))
theorem wm_1406 : Cond.static yL_raise ∈ lw_tbl := List.mem_append_right _ (List.mem_append_right _ (List.mem_append_right _ (List.mem_append_right _ (List.mem_append_right _ (List.mem_append_right _ (List.mem_append_left _ (List.mem_of_getElem? (i := 66) (by decide +kernel : tables_1_6[66]? = some (Cond.static yL_raise)))))))))
theorem wm_1407 : Cond.codeWith yL_raise cL_raise 6 (some .int) [(0, 12, 15, 19), (0, 12, 19, 79)] ∈ lw_tbl := List.mem_append_right _ (List.mem_append_right _ (List.mem_append_right _ (List.mem_append_right _ (List.mem_append_right _ (List.mem_append_right _ (List.mem_append_left _ (List.mem_of_getElem? (i := 67) (by decide +kernel : tables_1_6[67]? = some (Cond.codeWith yL_raise cL_raise 6 (some .int) [(0, 12, 15, 19), (0, 12, 19, 79)])))))))))
theorem wm_1413 : Cond.methodLink "IceJudgeLaw" 253 yL_prime ∈ lw_tbl := List.mem_append_right _ (List.mem_append_right _ (List.mem_append_right _ (List.mem_append_right _ (List.mem_append_right _ (List.mem_append_right _ (List.mem_append_left _ (List.mem_of_getElem? (i := 73) (by decide +kernel : tables_1_6[73]? = some (Cond.methodLink "IceJudgeLaw" 253 yL_prime)))))))))
theorem wm_1414 : Cond.static yL_prime ∈ lw_tbl := List.mem_append_right _ (List.mem_append_right _ (List.mem_append_right _ (List.mem_append_right _ (List.mem_append_right _ (List.mem_append_right _ (List.mem_append_left _ (List.mem_of_getElem? (i := 74) (by decide +kernel : tables_1_6[74]? = some (Cond.static yL_prime)))))))))
theorem wm_1415 : Cond.codeWith yL_prime cL_prime 5 (some .int) [(0, 10, 13, 19), (0, 10, 17, 13)] ∈ lw_tbl := List.mem_append_right _ (List.mem_append_right _ (List.mem_append_right _ (List.mem_append_right _ (List.mem_append_right _ (List.mem_append_right _ (List.mem_append_left _ (List.mem_of_getElem? (i := 75) (by decide +kernel : tables_1_6[75]? = some (Cond.codeWith yL_prime cL_prime 5 (some .int) [(0, 10, 13, 19), (0, 10, 17, 13)])))))))))
theorem wm_1429 : Cond.methodLink "IceJudgeLaw" 256 yL_led ∈ lw_tbl := List.mem_append_right _ (List.mem_append_right _ (List.mem_append_right _ (List.mem_append_right _ (List.mem_append_right _ (List.mem_append_right _ (List.mem_append_left _ (List.mem_of_getElem? (i := 89) (by decide +kernel : tables_1_6[89]? = some (Cond.methodLink "IceJudgeLaw" 256 yL_led)))))))))
theorem wm_1430 : Cond.static yL_led ∈ lw_tbl := List.mem_append_right _ (List.mem_append_right _ (List.mem_append_right _ (List.mem_append_right _ (List.mem_append_right _ (List.mem_append_right _ (List.mem_append_left _ (List.mem_of_getElem? (i := 90) (by decide +kernel : tables_1_6[90]? = some (Cond.static yL_led)))))))))
theorem wm_1431 : Cond.codeWith yL_led cL_led 4 (some .int) [(0, 9, 12, 13)] ∈ lw_tbl := List.mem_append_right _ (List.mem_append_right _ (List.mem_append_right _ (List.mem_append_right _ (List.mem_append_right _ (List.mem_append_right _ (List.mem_append_left _ (List.mem_of_getElem? (i := 91) (by decide +kernel : tables_1_6[91]? = some (Cond.codeWith yL_led cL_led 4 (some .int) [(0, 9, 12, 13)])))))))))
theorem wm_1437 : Cond.methodLink "IceJudgeLaw" 259 yL_doubt ∈ lw_tbl := List.mem_append_right _ (List.mem_append_right _ (List.mem_append_right _ (List.mem_append_right _ (List.mem_append_right _ (List.mem_append_right _ (List.mem_append_left _ (List.mem_of_getElem? (i := 97) (by decide +kernel : tables_1_6[97]? = some (Cond.methodLink "IceJudgeLaw" 259 yL_doubt)))))))))
theorem wm_1438 : Cond.static yL_doubt ∈ lw_tbl := List.mem_append_right _ (List.mem_append_right _ (List.mem_append_right _ (List.mem_append_right _ (List.mem_append_right _ (List.mem_append_right _ (List.mem_append_left _ (List.mem_of_getElem? (i := 98) (by decide +kernel : tables_1_6[98]? = some (Cond.static yL_doubt)))))))))
theorem wm_1439 : Cond.codeWith yL_doubt cL_doubt 4 (some .int) [(0, 9, 12, 19)] ∈ lw_tbl := List.mem_append_right _ (List.mem_append_right _ (List.mem_append_right _ (List.mem_append_right _ (List.mem_append_right _ (List.mem_append_right _ (List.mem_append_left _ (List.mem_of_getElem? (i := 99) (by decide +kernel : tables_1_6[99]? = some (Cond.codeWith yL_doubt cL_doubt 4 (some .int) [(0, 9, 12, 19)])))))))))
theorem wm_1455 : Cond.methodLink "IceJudgeLaw" 262 yL_clean ∈ lw_tbl := List.mem_append_right _ (List.mem_append_right _ (List.mem_append_right _ (List.mem_append_right _ (List.mem_append_right _ (List.mem_append_right _ (List.mem_append_left _ (List.mem_of_getElem? (i := 115) (by decide +kernel : tables_1_6[115]? = some (Cond.methodLink "IceJudgeLaw" 262 yL_clean)))))))))
theorem wm_1456 : Cond.static yL_clean ∈ lw_tbl := List.mem_append_right _ (List.mem_append_right _ (List.mem_append_right _ (List.mem_append_right _ (List.mem_append_right _ (List.mem_append_right _ (List.mem_append_left _ (List.mem_of_getElem? (i := 116) (by decide +kernel : tables_1_6[116]? = some (Cond.static yL_clean)))))))))
theorem wm_1457 : Cond.codeWith yL_clean cL_clean 4 (some .int) [(0, 9, 12, 19)] ∈ lw_tbl := List.mem_append_right _ (List.mem_append_right _ (List.mem_append_right _ (List.mem_append_right _ (List.mem_append_right _ (List.mem_append_right _ (List.mem_append_left _ (List.mem_of_getElem? (i := 117) (by decide +kernel : tables_1_6[117]? = some (Cond.codeWith yL_clean cL_clean 4 (some .int) [(0, 9, 12, 19)])))))))))
theorem wm_1462 : Cond.methodLink "IceJudgeLaw" 265 yL_write ∈ lw_tbl := List.mem_append_right _ (List.mem_append_right _ (List.mem_append_right _ (List.mem_append_right _ (List.mem_append_right _ (List.mem_append_right _ (List.mem_append_left _ (List.mem_of_getElem? (i := 122) (by decide +kernel : tables_1_6[122]? = some (Cond.methodLink "IceJudgeLaw" 265 yL_write)))))))))
theorem wm_1463 : Cond.static yL_write ∈ lw_tbl := List.mem_append_right _ (List.mem_append_right _ (List.mem_append_right _ (List.mem_append_right _ (List.mem_append_right _ (List.mem_append_right _ (List.mem_append_left _ (List.mem_of_getElem? (i := 123) (by decide +kernel : tables_1_6[123]? = some (Cond.static yL_write)))))))))
theorem wm_1464 : Cond.codeWith yL_write cL_write 4 (some .int) [(0, 9, 12, 19)] ∈ lw_tbl := List.mem_append_right _ (List.mem_append_right _ (List.mem_append_right _ (List.mem_append_right _ (List.mem_append_right _ (List.mem_append_right _ (List.mem_append_left _ (List.mem_of_getElem? (i := 124) (by decide +kernel : tables_1_6[124]? = some (Cond.codeWith yL_write cL_write 4 (some .int) [(0, 9, 12, 19)])))))))))
theorem mw_L_137 : jMW RL 137 yL_read cL_read 3 [(0, 8, 11, 13)] 2 := ⟨jTB_mem wm_764 rfl, jTB_mem wm_765 rfl, jTB_mem wm_140 rfl, jTB_mem wm_766 rfl, ⟨by decide +kernel, by decide +kernel, by decide +kernel⟩, by decide⟩
theorem mw_L_150 : jMW RL 150 yL_name cL_name 6 [(0, 12, 15, 19)] 5 := ⟨jTB_mem wm_1044 rfl, jTB_mem wm_1045 rfl, jTB_mem wm_140 rfl, jTB_mem wm_1046 rfl, ⟨by decide +kernel, by decide +kernel, by decide +kernel⟩, by decide⟩
theorem mw_L_154 : jMW RL 154 yL_element cL_element 5 [(0, 10, 13, 19), (0, 10, 17, 25)] 4 := ⟨jTB_mem wm_1081 rfl, jTB_mem wm_1082 rfl, jTB_mem wm_140 rfl, jTB_mem wm_1083 rfl, ⟨by decide +kernel, by decide +kernel, by decide +kernel⟩, by decide⟩
theorem mw_L_158 : jMW RL 158 yL_attempt cL_attempt 6 [(0, 12, 15, 19), (0, 12, 19, 25)] 5 := ⟨jTB_mem wm_1105 rfl, jTB_mem wm_1106 rfl, jTB_mem wm_140 rfl, jTB_mem wm_1107 rfl, ⟨by decide +kernel, by decide +kernel, by decide +kernel⟩, by decide⟩
theorem mw_L_162 : jMW RL 162 yL_grade cL_grade 6 [(0, 12, 15, 19)] 5 := ⟨jTB_mem wm_1140 rfl, jTB_mem wm_1141 rfl, jTB_mem wm_140 rfl, jTB_mem wm_1142 rfl, ⟨by decide +kernel, by decide +kernel, by decide +kernel⟩, by decide⟩
theorem mw_L_165 : jMW RL 165 yL_mean cL_mean 5 [(0, 10, 13, 19)] 4 := ⟨jTB_mem wm_1153 rfl, jTB_mem wm_1154 rfl, jTB_mem wm_140 rfl, jTB_mem wm_1155 rfl, ⟨by decide +kernel, by decide +kernel, by decide +kernel⟩, by decide⟩
theorem mw_L_168 : jMW RL 168 yL_mark cL_mark 6 [(0, 12, 15, 19)] 5 := ⟨jTB_mem wm_1161 rfl, jTB_mem wm_1162 rfl, jTB_mem wm_140 rfl, jTB_mem wm_1163 rfl, ⟨by decide +kernel, by decide +kernel, by decide +kernel⟩, by decide⟩
theorem mw_L_171 : jMW RL 171 yL_component cL_component 5 [(0, 10, 13, 19)] 4 := ⟨jTB_mem wm_1176 rfl, jTB_mem wm_1177 rfl, jTB_mem wm_140 rfl, jTB_mem wm_1178 rfl, ⟨by decide +kernel, by decide +kernel, by decide +kernel⟩, by decide⟩
theorem mw_L_174 : jMW RL 174 yL_total cL_total 5 [(0, 10, 13, 19), (0, 10, 17, 25)] 4 := ⟨jTB_mem wm_1184 rfl, jTB_mem wm_1185 rfl, jTB_mem wm_140 rfl, jTB_mem wm_1186 rfl, ⟨by decide +kernel, by decide +kernel, by decide +kernel⟩, by decide⟩
theorem mw_L_177 : jMW RL 177 yL_rule cL_rule 5 [(0, 10, 13, 19), (0, 10, 17, 25)] 4 := ⟨jTB_mem wm_1192 rfl, jTB_mem wm_1193 rfl, jTB_mem wm_140 rfl, jTB_mem wm_1194 rfl, ⟨by decide +kernel, by decide +kernel, by decide +kernel⟩, by decide⟩
theorem mw_L_180 : jMW RL 180 yL_rank cL_rank 4 [(0, 9, 12, 19)] 3 := ⟨jTB_mem wm_1201 rfl, jTB_mem wm_1202 rfl, jTB_mem wm_140 rfl, jTB_mem wm_1203 rfl, ⟨by decide +kernel, by decide +kernel, by decide +kernel⟩, by decide⟩
theorem mw_L_188 : jMW RL 188 yL_tell cL_tell 7 [(0, 14, 17, 19), (0, 14, 21, 13)] 6 := ⟨jTB_mem wm_1209 rfl, jTB_mem wm_1210 rfl, jTB_mem wm_140 rfl, jTB_mem wm_1211 rfl, ⟨by decide +kernel, by decide +kernel, by decide +kernel⟩, by decide⟩
theorem mw_L_192 : jMW RL 192 yL_show cL_show 7 [(0, 14, 17, 19), (0, 14, 21, 13)] 6 := ⟨jTB_mem wm_1226 rfl, jTB_mem wm_1227 rfl, jTB_mem wm_140 rfl, jTB_mem wm_1228 rfl, ⟨by decide +kernel, by decide +kernel, by decide +kernel⟩, by decide⟩
theorem mw_L_195 : jMW RL 195 yL_call cL_call 7 [(0, 21, 24, 19), (0, 21, 28, 13)] 6 := ⟨jTB_mem wm_1234 rfl, jTB_mem wm_1235 rfl, jTB_mem wm_140 rfl, jTB_mem wm_1236 rfl, ⟨by decide +kernel, by decide +kernel, by decide +kernel⟩, by decide⟩
theorem mw_L_199 : jMW RL 199 yL_base cL_base 5 [(0, 10, 13, 19), (0, 10, 17, 13)] 4 := ⟨jTB_mem wm_1242 rfl, jTB_mem wm_1243 rfl, jTB_mem wm_140 rfl, jTB_mem wm_1244 rfl, ⟨by decide +kernel, by decide +kernel, by decide +kernel⟩, by decide⟩
theorem mw_L_202 : jMW RL 202 yL_set cL_set 5 [(0, 10, 13, 25), (0, 10, 17, 13)] 4 := ⟨jTB_mem wm_1250 rfl, jTB_mem wm_1251 rfl, jTB_mem wm_140 rfl, jTB_mem wm_1252 rfl, ⟨by decide +kernel, by decide +kernel, by decide +kernel⟩, by decide⟩
theorem mw_L_205 : jMW RL 205 yL_scratch cL_scratch 5 [(0, 10, 13, 19)] 4 := ⟨jTB_mem wm_1261 rfl, jTB_mem wm_1262 rfl, jTB_mem wm_140 rfl, jTB_mem wm_1263 rfl, ⟨by decide +kernel, by decide +kernel, by decide +kernel⟩, by decide⟩
theorem mw_L_212 : jMW RL 212 yL_bias cL_bias 4 [(0, 9, 12, 19)] 3 := ⟨jTB_mem wm_1273 rfl, jTB_mem wm_1274 rfl, jTB_mem wm_140 rfl, jTB_mem wm_1275 rfl, ⟨by decide +kernel, by decide +kernel, by decide +kernel⟩, by decide⟩
theorem mw_L_219 : jMW RL 219 yL_without cL_without 5 [(0, 10, 13, 19), (0, 10, 17, 79)] 4 := ⟨jTB_mem wm_1281 rfl, jTB_mem wm_1282 rfl, jTB_mem wm_140 rfl, jTB_mem wm_1283 rfl, ⟨by decide +kernel, by decide +kernel, by decide +kernel⟩, by decide⟩
theorem mw_L_222 : jMW RL 222 yL_sways cL_sways 4 [(0, 9, 12, 19), (0, 9, 15, 79)] 3 := ⟨jTB_mem wm_1314 rfl, jTB_mem wm_1315 rfl, jTB_mem wm_140 rfl, jTB_mem wm_1316 rfl, ⟨by decide +kernel, by decide +kernel, by decide +kernel⟩, by decide⟩
theorem mw_L_225 : jMW RL 225 yL_alone cL_alone 5 [(0, 10, 13, 19)] 4 := ⟨jTB_mem wm_1325 rfl, jTB_mem wm_1326 rfl, jTB_mem wm_140 rfl, jTB_mem wm_1327 rfl, ⟨by decide +kernel, by decide +kernel, by decide +kernel⟩, by decide⟩
theorem mw_L_228 : jMW RL 228 yL_place cL_place 5 [(0, 10, 13, 19)] 4 := ⟨jTB_mem wm_1332 rfl, jTB_mem wm_1333 rfl, jTB_mem wm_140 rfl, jTB_mem wm_1334 rfl, ⟨by decide +kernel, by decide +kernel, by decide +kernel⟩, by decide⟩
theorem mw_L_231 : jMW RL 231 yL_majority cL_majority 4 [(0, 9, 12, 19)] 3 := ⟨jTB_mem wm_1340 rfl, jTB_mem wm_1341 rfl, jTB_mem wm_140 rfl, jTB_mem wm_1342 rfl, ⟨by decide +kernel, by decide +kernel, by decide +kernel⟩, by decide⟩
theorem mw_L_238 : jMW RL 238 yL_panel cL_panel 5 [(0, 10, 13, 13)] 4 := ⟨jTB_mem wm_1347 rfl, jTB_mem wm_1348 rfl, jTB_mem wm_140 rfl, jTB_mem wm_1349 rfl, ⟨by decide +kernel, by decide +kernel, by decide +kernel⟩, by decide⟩
theorem mw_L_241 : jMW RL 241 yL_by cL_by 5 [(0, 10, 13, 19), (0, 10, 17, 13)] 4 := ⟨jTB_mem wm_1364 rfl, jTB_mem wm_1365 rfl, jTB_mem wm_140 rfl, jTB_mem wm_1366 rfl, ⟨by decide +kernel, by decide +kernel, by decide +kernel⟩, by decide⟩
theorem mw_L_244 : jMW RL 244 yL_firsts cL_firsts 5 [(0, 10, 13, 19), (0, 10, 17, 13)] 4 := ⟨jTB_mem wm_1372 rfl, jTB_mem wm_1373 rfl, jTB_mem wm_140 rfl, jTB_mem wm_1374 rfl, ⟨by decide +kernel, by decide +kernel, by decide +kernel⟩, by decide⟩
theorem mw_L_247 : jMW RL 247 yL_needed cL_needed 5 [(0, 10, 13, 19), (0, 10, 17, 13)] 4 := ⟨jTB_mem wm_1384 rfl, jTB_mem wm_1385 rfl, jTB_mem wm_140 rfl, jTB_mem wm_1386 rfl, ⟨by decide +kernel, by decide +kernel, by decide +kernel⟩, by decide⟩
theorem mw_L_250 : jMW RL 250 yL_raise cL_raise 6 [(0, 12, 15, 19), (0, 12, 19, 79)] 5 := ⟨jTB_mem wm_1405 rfl, jTB_mem wm_1406 rfl, jTB_mem wm_140 rfl, jTB_mem wm_1407 rfl, ⟨by decide +kernel, by decide +kernel, by decide +kernel⟩, by decide⟩
theorem mw_L_253 : jMW RL 253 yL_prime cL_prime 5 [(0, 10, 13, 19), (0, 10, 17, 13)] 4 := ⟨jTB_mem wm_1413 rfl, jTB_mem wm_1414 rfl, jTB_mem wm_140 rfl, jTB_mem wm_1415 rfl, ⟨by decide +kernel, by decide +kernel, by decide +kernel⟩, by decide⟩
theorem mw_L_256 : jMW RL 256 yL_led cL_led 4 [(0, 9, 12, 13)] 3 := ⟨jTB_mem wm_1429 rfl, jTB_mem wm_1430 rfl, jTB_mem wm_140 rfl, jTB_mem wm_1431 rfl, ⟨by decide +kernel, by decide +kernel, by decide +kernel⟩, by decide⟩
theorem mw_L_259 : jMW RL 259 yL_doubt cL_doubt 4 [(0, 9, 12, 19)] 3 := ⟨jTB_mem wm_1437 rfl, jTB_mem wm_1438 rfl, jTB_mem wm_140 rfl, jTB_mem wm_1439 rfl, ⟨by decide +kernel, by decide +kernel, by decide +kernel⟩, by decide⟩
theorem mw_L_262 : jMW RL 262 yL_clean cL_clean 4 [(0, 9, 12, 19)] 3 := ⟨jTB_mem wm_1455 rfl, jTB_mem wm_1456 rfl, jTB_mem wm_140 rfl, jTB_mem wm_1457 rfl, ⟨by decide +kernel, by decide +kernel, by decide +kernel⟩, by decide⟩
theorem mw_L_265 : jMW RL 265 yL_write cL_write 4 [(0, 9, 12, 19)] 3 := ⟨jTB_mem wm_1462 rfl, jTB_mem wm_1463 rfl, jTB_mem wm_140 rfl, jTB_mem wm_1464 rfl, ⟨by decide +kernel, by decide +kernel, by decide +kernel⟩, by decide⟩
set_option maxHeartbeats 4000000 in
theorem st_0 {C : jC} {X : jX} (hC : jOk C X RL cL_law 7 180 60) (hSc : jSc C X) (hNs : jNs C) {kc ks : Nat} (hro : jRo C (kc + 4) (ks + 24)) {i : Int} {a1 : Int} {a2 : Int} {a3 : Int} {a4 : Int} {a5 : Int} (hi1 : 0 ≤ jw (i + 1) ∧ jw (i + 1) < ((jXs X).2.1 : Nat)) (ha1 : jsx X (jw (i + 1)) = a1) (hi2 : 0 ≤ jw (i + 2) ∧ jw (i + 2) < ((jXs X).2.1 : Nat)) (ha2 : jsx X (jw (i + 2)) = a2) (hi3 : 0 ≤ jw (i + 3) ∧ jw (i + 3) < ((jXs X).2.1 : Nat)) (ha3 : jsx X (jw (i + 3)) = a3) (hi4 : 0 ≤ jw (i + 4) ∧ jw (i + 4) < ((jXs X).2.1 : Nat)) (ha4 : jsx X (jw (i + 4)) = a4) (hi5 : 0 ≤ jw (i + 5) ∧ jw (i + 5) < ((jXs X).2.1 : Nat)) (ha5 : jsx X (jw (i + 5)) = a5) {M Mz : jM} (h : s_0 a1 a2 a3 a4 a5 M = some Mz) (kk : jG C X 180 7 (kc + 4) (ks + 24) 2756 [(4, 0), jA 1, jA 166, jA 180, jI i, jN, jN] [] Mz) : jG C X 180 7 kc ks 224 [(4, 0), jA 1, jA 166, jA 180, jI i, jN, jN] [] M := by
  unfold s_0 at h
  refine x_aloadA_n (pc := 224) hC dL_law_224 rfl rfl kk_1 (by decide) ?_
  refine x_aload_n (pc := 225) hC dL_law_225 rfl rfl (show (4 : Nat) ≠ 0 by decide) rfl ?_
  refine x_iload (pc := 226) hC dL_law_226 rfl ?_
  refine x_iconst (pc := 228) hC dL_law_228 ?_
  refine x_iadd (pc := 229) hC dL_law_229 ?_
  refine x_sa (pc := 230) hC hSc hi1 ha1 dL_law_230 ?_
  refine x_aload_n (pc := 231) hC dL_law_231 rfl rfl (show (4 : Nat) ≠ 0 by decide) rfl ?_
  refine x_iload (pc := 232) hC dL_law_232 rfl ?_
  refine x_iconst (pc := 234) hC dL_law_234 ?_
  refine x_iadd (pc := 235) hC dL_law_235 ?_
  refine x_sa (pc := 236) hC hSc hi2 ha2 dL_law_236 ?_
  refine x_aload_n (pc := 237) hC dL_law_237 rfl rfl (show (4 : Nat) ≠ 0 by decide) rfl ?_
  refine x_iload (pc := 238) hC dL_law_238 rfl ?_
  refine x_iconst (pc := 240) hC dL_law_240 ?_
  refine x_iadd (pc := 241) hC dL_law_241 ?_
  refine x_sa (pc := 242) hC hSc hi3 ha3 dL_law_242 ?_
  refine x_aload_n (pc := 243) hC dL_law_243 rfl rfl (show (4 : Nat) ≠ 0 by decide) rfl ?_
  refine x_iload (pc := 244) hC dL_law_244 rfl ?_
  refine x_iconst (pc := 246) hC dL_law_246 ?_
  refine x_iadd (pc := 247) hC dL_law_247 ?_
  refine x_sa (pc := 248) hC hSc hi4 ha4 dL_law_248 ?_
  refine x_aload_n (pc := 249) hC dL_law_249 rfl rfl (show (4 : Nat) ≠ 0 by decide) rfl ?_
  refine x_iload (pc := 250) hC dL_law_250 rfl ?_
  refine x_iconst (pc := 252) hC dL_law_252 ?_
  refine x_iadd (pc := 253) hC dL_law_253 ?_
  refine x_sa (pc := 254) hC hSc hi5 ha5 dL_law_254 ?_
  obtain ⟨v1, M3, e2, h⟩ := jbW_some h
  refine x_cV (pc := 255) hC mv_L_127 (ok_X9_feed (Nat.le_of_ble_eq_true rfl) e2) rfl (Nat.le_of_ble_eq_true rfl) kk_1 rfl (by decide) (hro.sub (by omega) (by omega)) (Nat.le_of_ble_eq_true rfl) dL_law_255 rfl ?_
  refine x_aloadA_n (pc := 258) hC dL_law_258 rfl rfl kk_166 (by decide) ?_
  refine x_aload_n (pc := 259) hC dL_law_259 rfl rfl (show (4 : Nat) ≠ 0 by decide) rfl ?_
  refine x_iload (pc := 260) hC dL_law_260 rfl ?_
  refine x_iconst (pc := 262) hC dL_law_262 ?_
  refine x_iadd (pc := 263) hC dL_law_263 ?_
  refine x_sa (pc := 264) hC hSc hi1 ha1 dL_law_264 ?_
  refine x_aload_n (pc := 265) hC dL_law_265 rfl rfl (show (4 : Nat) ≠ 0 by decide) rfl ?_
  refine x_iload (pc := 266) hC dL_law_266 rfl ?_
  refine x_iconst (pc := 268) hC dL_law_268 ?_
  refine x_iadd (pc := 269) hC dL_law_269 ?_
  refine x_sa (pc := 270) hC hSc hi2 ha2 dL_law_270 ?_
  refine x_aload_n (pc := 271) hC dL_law_271 rfl rfl (show (4 : Nat) ≠ 0 by decide) rfl ?_
  refine x_iload (pc := 272) hC dL_law_272 rfl ?_
  refine x_iconst (pc := 274) hC dL_law_274 ?_
  refine x_iadd (pc := 275) hC dL_law_275 ?_
  refine x_sa (pc := 276) hC hSc hi3 ha3 dL_law_276 ?_
  refine x_aload_n (pc := 277) hC dL_law_277 rfl rfl (show (4 : Nat) ≠ 0 by decide) rfl ?_
  refine x_iload (pc := 278) hC dL_law_278 rfl ?_
  refine x_iconst (pc := 280) hC dL_law_280 ?_
  refine x_iadd (pc := 281) hC dL_law_281 ?_
  refine x_sa (pc := 282) hC hSc hi4 ha4 dL_law_282 ?_
  refine x_aload_n (pc := 283) hC dL_law_283 rfl rfl (show (4 : Nat) ≠ 0 by decide) rfl ?_
  refine x_iload (pc := 284) hC dL_law_284 rfl ?_
  refine x_iconst (pc := 286) hC dL_law_286 ?_
  refine x_iadd (pc := 287) hC dL_law_287 ?_
  refine x_sa (pc := 288) hC hSc hi5 ha5 dL_law_288 ?_
  obtain ⟨v4, M6, e5, h⟩ := jbW_some h
  refine x_cV (pc := 289) hC mv_L_131 (ok_X10_feed (Nat.le_of_ble_eq_true rfl) e5) rfl (Nat.le_of_ble_eq_true rfl) kk_166 rfl (by decide) (hro.sub (by omega) (by omega)) (Nat.le_of_ble_eq_true rfl) dL_law_289 rfl ?_
  obtain ⟨hk7, h⟩ := jck_some h
  refine x_icmp_eq (tgt := 2756) (pc := 292) hC dL_law_292 (by decide) (fun _ => ?_) (fun hc => absurd hk7 hc)
  refine x_widen (kc2 := kc + 4) (ks2 := ks + 24) (by omega) (by omega) ?_
  cases h
  exact kk
set_option maxHeartbeats 4000000 in
theorem st_1 {C : jC} {X : jX} (hC : jOk C X RL cL_law 7 180 60) (hSc : jSc C X) (hNs : jNs C) {kc ks : Nat} (hro : jRo C (kc + 4) (ks + 24)) {i : Int} {a1 : Int} (hi1 : 0 ≤ jw (i + 1) ∧ jw (i + 1) < ((jXs X).2.1 : Nat)) (ha1 : jsx X (jw (i + 1)) = a1) {M Mz : jM} (h : s_1 a1 M = some Mz) (kk : jG C X 180 7 (kc + 4) (ks + 24) 2756 [(4, 0), jA 1, jA 166, jA 180, jI i, jN, jN] [] Mz) : jG C X 180 7 kc ks 297 [(4, 0), jA 1, jA 166, jA 180, jI i, jN, jN] [] M := by
  unfold s_1 at h
  refine x_aloadA_n (pc := 297) hC dL_law_297 rfl rfl kk_1 (by decide) ?_
  refine x_aload_n (pc := 298) hC dL_law_298 rfl rfl (show (4 : Nat) ≠ 0 by decide) rfl ?_
  refine x_iload (pc := 299) hC dL_law_299 rfl ?_
  refine x_iconst (pc := 301) hC dL_law_301 ?_
  refine x_iadd (pc := 302) hC dL_law_302 ?_
  refine x_sa (pc := 303) hC hSc hi1 ha1 dL_law_303 ?_
  obtain ⟨v1, M3, e2, h⟩ := jbW_some h
  refine x_cV (pc := 304) hC mv_L_132 (ok_X9_end (Nat.le_of_ble_eq_true rfl) e2) rfl (Nat.le_of_ble_eq_true rfl) kk_1 rfl (by decide) (hro.sub (by omega) (by omega)) (Nat.le_of_ble_eq_true rfl) dL_law_304 rfl ?_
  refine x_aloadA_n (pc := 307) hC dL_law_307 rfl rfl kk_166 (by decide) ?_
  refine x_aload_n (pc := 308) hC dL_law_308 rfl rfl (show (4 : Nat) ≠ 0 by decide) rfl ?_
  refine x_iload (pc := 309) hC dL_law_309 rfl ?_
  refine x_iconst (pc := 311) hC dL_law_311 ?_
  refine x_iadd (pc := 312) hC dL_law_312 ?_
  refine x_sa (pc := 313) hC hSc hi1 ha1 dL_law_313 ?_
  obtain ⟨v4, M6, e5, h⟩ := jbW_some h
  refine x_cV (pc := 314) hC mv_L_136 (ok_X10_end (Nat.le_of_ble_eq_true rfl) e5) rfl (Nat.le_of_ble_eq_true rfl) kk_166 rfl (by decide) (hro.sub (by omega) (by omega)) (Nat.le_of_ble_eq_true rfl) dL_law_314 rfl ?_
  obtain ⟨hk7, h⟩ := jck_some h
  refine x_icmp_eq (tgt := 2756) (pc := 317) hC dL_law_317 (by decide) (fun _ => ?_) (fun hc => absurd hk7 hc)
  refine x_widen (kc2 := kc + 4) (ks2 := ks + 24) (by omega) (by omega) ?_
  cases h
  exact kk
set_option maxHeartbeats 4000000 in
theorem st_2 {C : jC} {X : jX} (hC : jOk C X RL cL_law 7 180 60) (hSc : jSc C X) (hNs : jNs C) {kc ks : Nat} (hro : jRo C (kc + 4) (ks + 24)) {i : Int} {M Mz : jM} (h : s_2 M = some Mz) (kk : jG C X 180 7 (kc + 4) (ks + 24) 2756 [(4, 0), jA 1, jA 166, jA 180, jI i, jN, jN] [] Mz) : jG C X 180 7 kc ks 322 [(4, 0), jA 1, jA 166, jA 180, jI i, jN, jN] [] M := by
  unfold s_2 at h
  refine x_aloadA_n (pc := 322) hC dL_law_322 rfl rfl kk_1 (by decide) ?_
  refine x_aloadA_n (pc := 323) hC dL_law_323 rfl rfl kk_180 (by decide) ?_
  obtain ⟨v1, M3, e2, h⟩ := jbW_some h
  refine x_cSW (pc := 324) hC hNs mw_L_137 (ok_L_read (Nat.le_of_ble_eq_true rfl) e2) rfl (Nat.le_of_ble_eq_true rfl) (hro.sub (by omega) (by omega)) (Nat.le_of_ble_eq_true rfl) dL_law_324 rfl (kc2 := kc + 1) (ks2 := ks + 6) rfl rfl ?_
  refine x_istore (ls2 := [(4, 0), jA 1, jA 166, jA 180, jI i, jI v1, jN]) (pc := 327) hC dL_law_327 (by decide) rfl rfl rfl ?_
  refine x_aloadA_n (pc := 329) hC dL_law_329 rfl rfl kk_166 (by decide) ?_
  obtain ⟨v4, M6, e5, h⟩ := jbW_some h
  refine x_cV (pc := 330) hC mv_L_142 (ok_X10_read (Nat.le_of_ble_eq_true rfl) e5) rfl (Nat.le_of_ble_eq_true rfl) kk_166 rfl (by decide) (hro.sub (by omega) (by omega)) (Nat.le_of_ble_eq_true rfl) dL_law_330 rfl ?_
  refine x_istore (ls2 := [(4, 0), jA 1, jA 166, jA 180, jI i, jI v1, jI v4]) (pc := 333) hC dL_law_333 (by decide) rfl rfl rfl ?_
  refine x_aloadA_n (pc := 335) hC dL_law_335 rfl rfl kk_166 (by decide) ?_
  obtain ⟨v7, e8, h⟩ := jbR_some h
  refine x_cV (pc := 336) hC mv_L_143 (ok_X10_thrown (Nat.le_of_ble_eq_true rfl) e8) rfl (Nat.le_of_ble_eq_true rfl) kk_166 rfl (by decide) (hro.sub (by omega) (by omega)) (Nat.le_of_ble_eq_true rfl) dL_law_336 rfl ?_
  refine x_iload (pc := 339) hC dL_law_339 rfl ?_
  obtain ⟨hk9, h⟩ := jck_some h
  refine x_icmp_eq (tgt := 346) (pc := 341) hC dL_law_341 (by decide) (fun _ => ?_) (fun hc => absurd hk9 hc)
  refine x_iload (pc := 346) hC dL_law_346 rfl ?_
  refine x_if_ne (tgt := 363) (pc := 348) hC dL_law_348 (by decide) (fun hc => ?_) (fun hc => ?_)
  · replace h := jit_neg hc h
    refine x_goto (tgt := 2756) (pc := 363) hC dL_law_363 (by decide) ?_
    refine x_kill 5 (ls2 := [(4, 0), jA 1, jA 166, jA 180, jI i, jN, jI v4]) rfl ?_
    refine x_kill 6 (ls2 := [(4, 0), jA 1, jA 166, jA 180, jI i, jN, jN]) rfl ?_
    refine x_widen (kc2 := kc + 4) (ks2 := ks + 24) (by omega) (by omega) ?_
    cases h
    exact kk
  · replace h := jit_pos hc h
    refine x_aloadA_n (pc := 351) hC dL_law_351 rfl rfl kk_180 (by decide) ?_
    refine x_iconst (pc := 352) hC dL_law_352 ?_
    refine x_lald (pc := 353) hC kk_180 (by decide) (by decide +kernel) dL_law_353 ?_
    refine x_iload (pc := 354) hC dL_law_354 rfl ?_
    refine x_i2l (pc := 356) hC dL_law_356 ?_
    refine x_lcmp (pc := 357) hC dL_law_357 ?_
    obtain ⟨hk10, h⟩ := jck_some h
    refine x_if_eq (tgt := 363) (pc := 358) hC dL_law_358 (by decide) (fun _ => ?_) (fun hc => absurd hk10 hc)
    refine x_goto (tgt := 2756) (pc := 363) hC dL_law_363 (by decide) ?_
    refine x_kill 5 (ls2 := [(4, 0), jA 1, jA 166, jA 180, jI i, jN, jI v4]) rfl ?_
    refine x_kill 6 (ls2 := [(4, 0), jA 1, jA 166, jA 180, jI i, jN, jN]) rfl ?_
    refine x_widen (kc2 := kc + 4) (ks2 := ks + 24) (by omega) (by omega) ?_
    cases h
    exact kk
set_option maxHeartbeats 4000000 in
theorem st_3 {C : jC} {X : jX} (hC : jOk C X RL cL_law 7 180 60) (hSc : jSc C X) (hNs : jNs C) {kc ks : Nat} (hro : jRo C (kc + 4) (ks + 24)) {i : Int} {M Mz : jM} (h : s_3 M = some Mz) (kk : jG C X 180 7 (kc + 4) (ks + 24) 2756 [(4, 0), jA 1, jA 166, jA 180, jI i, jN, jN] [] Mz) : jG C X 180 7 kc ks 366 [(4, 0), jA 1, jA 166, jA 180, jI i, jN, jN] [] M := by
  unfold s_3 at h
  refine x_aloadA_n (pc := 366) hC dL_law_366 rfl rfl kk_1 (by decide) ?_
  obtain ⟨v1, e2, h⟩ := jbR_some h
  refine x_cV (pc := 367) hC mv_L_146 (ok_X9_fault (Nat.le_of_ble_eq_true rfl) e2) rfl (Nat.le_of_ble_eq_true rfl) kk_1 rfl (by decide) (hro.sub (by omega) (by omega)) (Nat.le_of_ble_eq_true rfl) dL_law_367 rfl ?_
  refine x_aloadA_n (pc := 370) hC dL_law_370 rfl rfl kk_166 (by decide) ?_
  obtain ⟨v3, M5, e4, h⟩ := jbW_some h
  refine x_cV (pc := 371) hC mv_L_149 (ok_X10_fault (Nat.le_of_ble_eq_true rfl) e4) rfl (Nat.le_of_ble_eq_true rfl) kk_166 rfl (by decide) (hro.sub (by omega) (by omega)) (Nat.le_of_ble_eq_true rfl) dL_law_371 rfl ?_
  obtain ⟨hk6, h⟩ := jck_some h
  refine x_icmp_eq (tgt := 2756) (pc := 374) hC dL_law_374 (by decide) (fun _ => ?_) (fun hc => absurd hk6 hc)
  refine x_widen (kc2 := kc + 4) (ks2 := ks + 24) (by omega) (by omega) ?_
  cases h
  exact kk
set_option maxHeartbeats 4000000 in
theorem st_4 {C : jC} {X : jX} (hC : jOk C X RL cL_law 7 180 60) (hSc : jSc C X) (hNs : jNs C) {kc ks : Nat} (hro : jRo C (kc + 4) (ks + 24)) {i : Int} {a1 : Int} {a2 : Int} {a3 : Int} (hi1 : 0 ≤ jw (i + 1) ∧ jw (i + 1) < ((jXs X).2.1 : Nat)) (ha1 : jsx X (jw (i + 1)) = a1) (hi2 : 0 ≤ jw (i + 2) ∧ jw (i + 2) < ((jXs X).2.1 : Nat)) (ha2 : jsx X (jw (i + 2)) = a2) (hi3 : 0 ≤ jw (i + 3) ∧ jw (i + 3) < ((jXs X).2.1 : Nat)) (ha3 : jsx X (jw (i + 3)) = a3) {M Mz : jM} (h : s_4 a1 a2 a3 M = some Mz) (kk : jG C X 180 7 (kc + 4) (ks + 24) 2756 [(4, 0), jA 1, jA 166, jA 180, jI i, jN, jN] [] Mz) : jG C X 180 7 kc ks 379 [(4, 0), jA 1, jA 166, jA 180, jI i, jN, jN] [] M := by
  unfold s_4 at h
  refine x_aloadA_n (pc := 379) hC dL_law_379 rfl rfl kk_1 (by decide) ?_
  refine x_aload_n (pc := 380) hC dL_law_380 rfl rfl (show (4 : Nat) ≠ 0 by decide) rfl ?_
  refine x_iload (pc := 381) hC dL_law_381 rfl ?_
  refine x_iconst (pc := 383) hC dL_law_383 ?_
  refine x_iadd (pc := 384) hC dL_law_384 ?_
  refine x_sa (pc := 385) hC hSc hi1 ha1 dL_law_385 ?_
  obtain ⟨b1, eb1, h⟩ := jlet_some h
  have keyb1 : jG C X 180 7 kc ks 394 [(4, 0), jA 1, jA 166, jA 180, jI i, jN, jN] [jI b1, jA 1] M := by
    refine x_aload_n (pc := 394) hC dL_law_394 rfl rfl (show (4 : Nat) ≠ 0 by decide) rfl ?_
    refine x_iload (pc := 395) hC dL_law_395 rfl ?_
    refine x_iconst (pc := 397) hC dL_law_397 ?_
    refine x_iadd (pc := 398) hC dL_law_398 ?_
    refine x_sa (pc := 399) hC hSc hi2 ha2 dL_law_399 ?_
    refine x_aload_n (pc := 400) hC dL_law_400 rfl rfl (show (4 : Nat) ≠ 0 by decide) rfl ?_
    refine x_iload (pc := 401) hC dL_law_401 rfl ?_
    refine x_iconst (pc := 403) hC dL_law_403 ?_
    refine x_iadd (pc := 404) hC dL_law_404 ?_
    refine x_sa (pc := 405) hC hSc hi3 ha3 dL_law_405 ?_
    refine x_aloadA_n (pc := 406) hC dL_law_406 rfl rfl kk_180 (by decide) ?_
    obtain ⟨v2, M4, e3, h⟩ := jbW_some h
    refine x_cSW (pc := 407) hC hNs mw_L_150 (ok_L_name (Nat.le_of_ble_eq_true rfl) e3) rfl (Nat.le_of_ble_eq_true rfl) (hro.sub (by omega) (by omega)) (Nat.le_of_ble_eq_true rfl) dL_law_407 rfl (kc2 := kc + 1) (ks2 := ks + 6) rfl rfl ?_
    refine x_istore (ls2 := [(4, 0), jA 1, jA 166, jA 180, jI i, jI v2, jN]) (pc := 410) hC dL_law_410 (by decide) rfl rfl rfl ?_
    refine x_aloadA_n (pc := 412) hC dL_law_412 rfl rfl kk_166 (by decide) ?_
    refine x_aload_n (pc := 413) hC dL_law_413 rfl rfl (show (4 : Nat) ≠ 0 by decide) rfl ?_
    refine x_iload (pc := 414) hC dL_law_414 rfl ?_
    refine x_iconst (pc := 416) hC dL_law_416 ?_
    refine x_iadd (pc := 417) hC dL_law_417 ?_
    refine x_sa (pc := 418) hC hSc hi1 ha1 dL_law_418 ?_
    obtain ⟨b5, eb5, h⟩ := jlet_some h
    have keyb5 : jG C X 180 7 (kc + 1) (ks + 6) 427 [(4, 0), jA 1, jA 166, jA 180, jI i, jI v2, jN] [jI b5, jA 166] M4 := by
      refine x_aload_n (pc := 427) hC dL_law_427 rfl rfl (show (4 : Nat) ≠ 0 by decide) rfl ?_
      refine x_iload (pc := 428) hC dL_law_428 rfl ?_
      refine x_iconst (pc := 430) hC dL_law_430 ?_
      refine x_iadd (pc := 431) hC dL_law_431 ?_
      refine x_sa (pc := 432) hC hSc hi2 ha2 dL_law_432 ?_
      refine x_aload_n (pc := 433) hC dL_law_433 rfl rfl (show (4 : Nat) ≠ 0 by decide) rfl ?_
      refine x_iload (pc := 434) hC dL_law_434 rfl ?_
      refine x_iconst (pc := 436) hC dL_law_436 ?_
      refine x_iadd (pc := 437) hC dL_law_437 ?_
      refine x_sa (pc := 438) hC hSc hi3 ha3 dL_law_438 ?_
      obtain ⟨v6, M8, e7, h⟩ := jbW_some h
      refine x_cV (pc := 439) hC mv_L_153 (ok_X10_name (Nat.le_of_ble_eq_true rfl) e7) rfl (Nat.le_of_ble_eq_true rfl) kk_166 rfl (by decide) (hro.sub (by omega) (by omega)) (Nat.le_of_ble_eq_true rfl) dL_law_439 rfl ?_
      refine x_istore (ls2 := [(4, 0), jA 1, jA 166, jA 180, jI i, jI v2, jI v6]) (pc := 442) hC dL_law_442 (by decide) rfl rfl rfl ?_
      refine x_aloadA_n (pc := 444) hC dL_law_444 rfl rfl kk_166 (by decide) ?_
      obtain ⟨v9, e10, h⟩ := jbR_some h
      refine x_cV (pc := 445) hC mv_L_143 (ok_X10_thrown (Nat.le_of_ble_eq_true rfl) e10) rfl (Nat.le_of_ble_eq_true rfl) kk_166 rfl (by decide) (hro.sub (by omega) (by omega)) (Nat.le_of_ble_eq_true rfl) dL_law_445 rfl ?_
      refine x_iload (pc := 448) hC dL_law_448 rfl ?_
      obtain ⟨hk11, h⟩ := jck_some h
      refine x_icmp_eq (tgt := 455) (pc := 450) hC dL_law_450 (by decide) (fun _ => ?_) (fun hc => absurd hk11 hc)
      refine x_iload (pc := 455) hC dL_law_455 rfl ?_
      refine x_if_ne (tgt := 472) (pc := 457) hC dL_law_457 (by decide) (fun hc => ?_) (fun hc => ?_)
      · replace h := jit_neg hc h
        refine x_goto (tgt := 2756) (pc := 472) hC dL_law_472 (by decide) ?_
        refine x_kill 5 (ls2 := [(4, 0), jA 1, jA 166, jA 180, jI i, jN, jI v6]) rfl ?_
        refine x_kill 6 (ls2 := [(4, 0), jA 1, jA 166, jA 180, jI i, jN, jN]) rfl ?_
        refine x_widen (kc2 := kc + 4) (ks2 := ks + 24) (by omega) (by omega) ?_
        cases h
        exact kk
      · replace h := jit_pos hc h
        refine x_aloadA_n (pc := 460) hC dL_law_460 rfl rfl kk_180 (by decide) ?_
        refine x_iconst (pc := 461) hC dL_law_461 ?_
        refine x_lald (pc := 462) hC kk_180 (by decide) (by decide +kernel) dL_law_462 ?_
        refine x_iload (pc := 463) hC dL_law_463 rfl ?_
        refine x_i2l (pc := 465) hC dL_law_465 ?_
        refine x_lcmp (pc := 466) hC dL_law_466 ?_
        obtain ⟨hk12, h⟩ := jck_some h
        refine x_if_eq (tgt := 472) (pc := 467) hC dL_law_467 (by decide) (fun _ => ?_) (fun hc => absurd hk12 hc)
        refine x_goto (tgt := 2756) (pc := 472) hC dL_law_472 (by decide) ?_
        refine x_kill 5 (ls2 := [(4, 0), jA 1, jA 166, jA 180, jI i, jN, jI v6]) rfl ?_
        refine x_kill 6 (ls2 := [(4, 0), jA 1, jA 166, jA 180, jI i, jN, jN]) rfl ?_
        refine x_widen (kc2 := kc + 4) (ks2 := ks + 24) (by omega) (by omega) ?_
        cases h
        exact kk
    refine x_if_eq (tgt := 426) (pc := 419) hC dL_law_419 (by decide) (fun hv => ?_) (fun hv => ?_)
    · refine x_iconst (pc := 426) hC dL_law_426 ?_
      rw [if_pos hv] at eb5
      rw [eb5] at keyb5
      exact keyb5
    · refine x_iconst (pc := 422) hC dL_law_422 ?_
      refine x_goto (tgt := 427) (pc := 423) hC dL_law_423 (by decide) ?_
      rw [if_neg hv] at eb5
      rw [eb5] at keyb5
      exact keyb5
  refine x_if_eq (tgt := 393) (pc := 386) hC dL_law_386 (by decide) (fun hv => ?_) (fun hv => ?_)
  · refine x_iconst (pc := 393) hC dL_law_393 ?_
    rw [if_pos hv] at eb1
    rw [eb1] at keyb1
    exact keyb1
  · refine x_iconst (pc := 389) hC dL_law_389 ?_
    refine x_goto (tgt := 394) (pc := 390) hC dL_law_390 (by decide) ?_
    rw [if_neg hv] at eb1
    rw [eb1] at keyb1
    exact keyb1
set_option maxHeartbeats 4000000 in
theorem st_5 {C : jC} {X : jX} (hC : jOk C X RL cL_law 7 180 60) (hSc : jSc C X) (hNs : jNs C) {kc ks : Nat} (hro : jRo C (kc + 4) (ks + 24)) {i : Int} {a1 : Int} {a2 : Int} (hi1 : 0 ≤ jw (i + 1) ∧ jw (i + 1) < ((jXs X).2.1 : Nat)) (ha1 : jsx X (jw (i + 1)) = a1) (hi2 : 0 ≤ jw (i + 2) ∧ jw (i + 2) < ((jXs X).2.1 : Nat)) (ha2 : jsx X (jw (i + 2)) = a2) {M Mz : jM} (h : s_5 a1 a2 M = some Mz) (kk : jG C X 180 7 (kc + 4) (ks + 24) 2756 [(4, 0), jA 1, jA 166, jA 180, jI i, jN, jN] [] Mz) : jG C X 180 7 kc ks 475 [(4, 0), jA 1, jA 166, jA 180, jI i, jN, jN] [] M := by
  unfold s_5 at h
  refine x_aloadA_n (pc := 475) hC dL_law_475 rfl rfl kk_1 (by decide) ?_
  refine x_aload_n (pc := 476) hC dL_law_476 rfl rfl (show (4 : Nat) ≠ 0 by decide) rfl ?_
  refine x_iload (pc := 477) hC dL_law_477 rfl ?_
  refine x_iconst (pc := 479) hC dL_law_479 ?_
  refine x_iadd (pc := 480) hC dL_law_480 ?_
  refine x_sa (pc := 481) hC hSc hi1 ha1 dL_law_481 ?_
  refine x_aload_n (pc := 482) hC dL_law_482 rfl rfl (show (4 : Nat) ≠ 0 by decide) rfl ?_
  refine x_iload (pc := 483) hC dL_law_483 rfl ?_
  refine x_iconst (pc := 485) hC dL_law_485 ?_
  refine x_iadd (pc := 486) hC dL_law_486 ?_
  refine x_sa (pc := 487) hC hSc hi2 ha2 dL_law_487 ?_
  refine x_aloadA_n (pc := 488) hC dL_law_488 rfl rfl kk_180 (by decide) ?_
  obtain ⟨v1, M3, e2, h⟩ := jbW_some h
  refine x_cSW (pc := 489) hC hNs mw_L_154 (ok_L_element (Nat.le_of_ble_eq_true rfl) e2) rfl (Nat.le_of_ble_eq_true rfl) (hro.sub (by omega) (by omega)) (Nat.le_of_ble_eq_true rfl) dL_law_489 rfl (kc2 := kc + 2) (ks2 := ks + 12) rfl rfl ?_
  refine x_istore (ls2 := [(4, 0), jA 1, jA 166, jA 180, jI i, jI v1, jN]) (pc := 492) hC dL_law_492 (by decide) rfl rfl rfl ?_
  refine x_aloadA_n (pc := 494) hC dL_law_494 rfl rfl kk_166 (by decide) ?_
  refine x_aload_n (pc := 495) hC dL_law_495 rfl rfl (show (4 : Nat) ≠ 0 by decide) rfl ?_
  refine x_iload (pc := 496) hC dL_law_496 rfl ?_
  refine x_iconst (pc := 498) hC dL_law_498 ?_
  refine x_iadd (pc := 499) hC dL_law_499 ?_
  refine x_sa (pc := 500) hC hSc hi1 ha1 dL_law_500 ?_
  refine x_aload_n (pc := 501) hC dL_law_501 rfl rfl (show (4 : Nat) ≠ 0 by decide) rfl ?_
  refine x_iload (pc := 502) hC dL_law_502 rfl ?_
  refine x_iconst (pc := 504) hC dL_law_504 ?_
  refine x_iadd (pc := 505) hC dL_law_505 ?_
  refine x_sa (pc := 506) hC hSc hi2 ha2 dL_law_506 ?_
  obtain ⟨v4, M6, e5, h⟩ := jbW_some h
  refine x_cV (pc := 507) hC mv_L_157 (ok_X10_element (Nat.le_of_ble_eq_true rfl) e5) rfl (Nat.le_of_ble_eq_true rfl) kk_166 rfl (by decide) (hro.sub (by omega) (by omega)) (Nat.le_of_ble_eq_true rfl) dL_law_507 rfl ?_
  refine x_istore (ls2 := [(4, 0), jA 1, jA 166, jA 180, jI i, jI v1, jI v4]) (pc := 510) hC dL_law_510 (by decide) rfl rfl rfl ?_
  refine x_aloadA_n (pc := 512) hC dL_law_512 rfl rfl kk_166 (by decide) ?_
  obtain ⟨v7, e8, h⟩ := jbR_some h
  refine x_cV (pc := 513) hC mv_L_143 (ok_X10_thrown (Nat.le_of_ble_eq_true rfl) e8) rfl (Nat.le_of_ble_eq_true rfl) kk_166 rfl (by decide) (hro.sub (by omega) (by omega)) (Nat.le_of_ble_eq_true rfl) dL_law_513 rfl ?_
  refine x_iload (pc := 516) hC dL_law_516 rfl ?_
  obtain ⟨hk9, h⟩ := jck_some h
  refine x_icmp_eq (tgt := 523) (pc := 518) hC dL_law_518 (by decide) (fun _ => ?_) (fun hc => absurd hk9 hc)
  refine x_iload (pc := 523) hC dL_law_523 rfl ?_
  refine x_if_ne (tgt := 540) (pc := 525) hC dL_law_525 (by decide) (fun hc => ?_) (fun hc => ?_)
  · replace h := jit_neg hc h
    refine x_goto (tgt := 2756) (pc := 540) hC dL_law_540 (by decide) ?_
    refine x_kill 5 (ls2 := [(4, 0), jA 1, jA 166, jA 180, jI i, jN, jI v4]) rfl ?_
    refine x_kill 6 (ls2 := [(4, 0), jA 1, jA 166, jA 180, jI i, jN, jN]) rfl ?_
    refine x_widen (kc2 := kc + 4) (ks2 := ks + 24) (by omega) (by omega) ?_
    cases h
    exact kk
  · replace h := jit_pos hc h
    refine x_aloadA_n (pc := 528) hC dL_law_528 rfl rfl kk_180 (by decide) ?_
    refine x_iconst (pc := 529) hC dL_law_529 ?_
    refine x_lald (pc := 530) hC kk_180 (by decide) (by decide +kernel) dL_law_530 ?_
    refine x_iload (pc := 531) hC dL_law_531 rfl ?_
    refine x_i2l (pc := 533) hC dL_law_533 ?_
    refine x_lcmp (pc := 534) hC dL_law_534 ?_
    obtain ⟨hk10, h⟩ := jck_some h
    refine x_if_eq (tgt := 540) (pc := 535) hC dL_law_535 (by decide) (fun _ => ?_) (fun hc => absurd hk10 hc)
    refine x_goto (tgt := 2756) (pc := 540) hC dL_law_540 (by decide) ?_
    refine x_kill 5 (ls2 := [(4, 0), jA 1, jA 166, jA 180, jI i, jN, jI v4]) rfl ?_
    refine x_kill 6 (ls2 := [(4, 0), jA 1, jA 166, jA 180, jI i, jN, jN]) rfl ?_
    refine x_widen (kc2 := kc + 4) (ks2 := ks + 24) (by omega) (by omega) ?_
    cases h
    exact kk
set_option maxHeartbeats 4000000 in
theorem st_6 {C : jC} {X : jX} (hC : jOk C X RL cL_law 7 180 60) (hSc : jSc C X) (hNs : jNs C) {kc ks : Nat} (hro : jRo C (kc + 4) (ks + 24)) {i : Int} {a1 : Int} {a2 : Int} {a3 : Int} (hi1 : 0 ≤ jw (i + 1) ∧ jw (i + 1) < ((jXs X).2.1 : Nat)) (ha1 : jsx X (jw (i + 1)) = a1) (hi2 : 0 ≤ jw (i + 2) ∧ jw (i + 2) < ((jXs X).2.1 : Nat)) (ha2 : jsx X (jw (i + 2)) = a2) (hi3 : 0 ≤ jw (i + 3) ∧ jw (i + 3) < ((jXs X).2.1 : Nat)) (ha3 : jsx X (jw (i + 3)) = a3) {M Mz : jM} (h : s_6 a1 a2 a3 M = some Mz) (kk : jG C X 180 7 (kc + 4) (ks + 24) 2756 [(4, 0), jA 1, jA 166, jA 180, jI i, jN, jN] [] Mz) : jG C X 180 7 kc ks 543 [(4, 0), jA 1, jA 166, jA 180, jI i, jN, jN] [] M := by
  unfold s_6 at h
  refine x_aloadA_n (pc := 543) hC dL_law_543 rfl rfl kk_1 (by decide) ?_
  refine x_aload_n (pc := 544) hC dL_law_544 rfl rfl (show (4 : Nat) ≠ 0 by decide) rfl ?_
  refine x_iload (pc := 545) hC dL_law_545 rfl ?_
  refine x_iconst (pc := 547) hC dL_law_547 ?_
  refine x_iadd (pc := 548) hC dL_law_548 ?_
  refine x_sa (pc := 549) hC hSc hi1 ha1 dL_law_549 ?_
  refine x_aload_n (pc := 550) hC dL_law_550 rfl rfl (show (4 : Nat) ≠ 0 by decide) rfl ?_
  refine x_iload (pc := 551) hC dL_law_551 rfl ?_
  refine x_iconst (pc := 553) hC dL_law_553 ?_
  refine x_iadd (pc := 554) hC dL_law_554 ?_
  refine x_sa (pc := 555) hC hSc hi2 ha2 dL_law_555 ?_
  refine x_aload_n (pc := 556) hC dL_law_556 rfl rfl (show (4 : Nat) ≠ 0 by decide) rfl ?_
  refine x_iload (pc := 557) hC dL_law_557 rfl ?_
  refine x_iconst (pc := 559) hC dL_law_559 ?_
  refine x_iadd (pc := 560) hC dL_law_560 ?_
  refine x_sa (pc := 561) hC hSc hi3 ha3 dL_law_561 ?_
  refine x_aloadA_n (pc := 562) hC dL_law_562 rfl rfl kk_180 (by decide) ?_
  obtain ⟨v1, M3, e2, h⟩ := jbW_some h
  refine x_cSW (pc := 563) hC hNs mw_L_158 (ok_L_attempt (Nat.le_of_ble_eq_true rfl) e2) rfl (Nat.le_of_ble_eq_true rfl) (hro.sub (by omega) (by omega)) (Nat.le_of_ble_eq_true rfl) dL_law_563 rfl (kc2 := kc + 3) (ks2 := ks + 18) rfl rfl ?_
  refine x_istore (ls2 := [(4, 0), jA 1, jA 166, jA 180, jI i, jI v1, jN]) (pc := 566) hC dL_law_566 (by decide) rfl rfl rfl ?_
  refine x_aloadA_n (pc := 568) hC dL_law_568 rfl rfl kk_166 (by decide) ?_
  refine x_aload_n (pc := 569) hC dL_law_569 rfl rfl (show (4 : Nat) ≠ 0 by decide) rfl ?_
  refine x_iload (pc := 570) hC dL_law_570 rfl ?_
  refine x_iconst (pc := 572) hC dL_law_572 ?_
  refine x_iadd (pc := 573) hC dL_law_573 ?_
  refine x_sa (pc := 574) hC hSc hi1 ha1 dL_law_574 ?_
  refine x_aload_n (pc := 575) hC dL_law_575 rfl rfl (show (4 : Nat) ≠ 0 by decide) rfl ?_
  refine x_iload (pc := 576) hC dL_law_576 rfl ?_
  refine x_iconst (pc := 578) hC dL_law_578 ?_
  refine x_iadd (pc := 579) hC dL_law_579 ?_
  refine x_sa (pc := 580) hC hSc hi2 ha2 dL_law_580 ?_
  refine x_aload_n (pc := 581) hC dL_law_581 rfl rfl (show (4 : Nat) ≠ 0 by decide) rfl ?_
  refine x_iload (pc := 582) hC dL_law_582 rfl ?_
  refine x_iconst (pc := 584) hC dL_law_584 ?_
  refine x_iadd (pc := 585) hC dL_law_585 ?_
  refine x_sa (pc := 586) hC hSc hi3 ha3 dL_law_586 ?_
  obtain ⟨v4, M6, e5, h⟩ := jbW_some h
  refine x_cV (pc := 587) hC mv_L_161 (ok_X10_attempt (Nat.le_of_ble_eq_true rfl) e5) rfl (Nat.le_of_ble_eq_true rfl) kk_166 rfl (by decide) (hro.sub (by omega) (by omega)) (Nat.le_of_ble_eq_true rfl) dL_law_587 rfl ?_
  refine x_istore (ls2 := [(4, 0), jA 1, jA 166, jA 180, jI i, jI v1, jI v4]) (pc := 590) hC dL_law_590 (by decide) rfl rfl rfl ?_
  refine x_aloadA_n (pc := 592) hC dL_law_592 rfl rfl kk_166 (by decide) ?_
  obtain ⟨v7, e8, h⟩ := jbR_some h
  refine x_cV (pc := 593) hC mv_L_143 (ok_X10_thrown (Nat.le_of_ble_eq_true rfl) e8) rfl (Nat.le_of_ble_eq_true rfl) kk_166 rfl (by decide) (hro.sub (by omega) (by omega)) (Nat.le_of_ble_eq_true rfl) dL_law_593 rfl ?_
  refine x_iload (pc := 596) hC dL_law_596 rfl ?_
  obtain ⟨hk9, h⟩ := jck_some h
  refine x_icmp_eq (tgt := 603) (pc := 598) hC dL_law_598 (by decide) (fun _ => ?_) (fun hc => absurd hk9 hc)
  refine x_iload (pc := 603) hC dL_law_603 rfl ?_
  refine x_if_ne (tgt := 620) (pc := 605) hC dL_law_605 (by decide) (fun hc => ?_) (fun hc => ?_)
  · replace h := jit_neg hc h
    refine x_goto (tgt := 2756) (pc := 620) hC dL_law_620 (by decide) ?_
    refine x_kill 5 (ls2 := [(4, 0), jA 1, jA 166, jA 180, jI i, jN, jI v4]) rfl ?_
    refine x_kill 6 (ls2 := [(4, 0), jA 1, jA 166, jA 180, jI i, jN, jN]) rfl ?_
    refine x_widen (kc2 := kc + 4) (ks2 := ks + 24) (by omega) (by omega) ?_
    cases h
    exact kk
  · replace h := jit_pos hc h
    refine x_aloadA_n (pc := 608) hC dL_law_608 rfl rfl kk_180 (by decide) ?_
    refine x_iconst (pc := 609) hC dL_law_609 ?_
    refine x_lald (pc := 610) hC kk_180 (by decide) (by decide +kernel) dL_law_610 ?_
    refine x_iload (pc := 611) hC dL_law_611 rfl ?_
    refine x_i2l (pc := 613) hC dL_law_613 ?_
    refine x_lcmp (pc := 614) hC dL_law_614 ?_
    obtain ⟨hk10, h⟩ := jck_some h
    refine x_if_eq (tgt := 620) (pc := 615) hC dL_law_615 (by decide) (fun _ => ?_) (fun hc => absurd hk10 hc)
    refine x_goto (tgt := 2756) (pc := 620) hC dL_law_620 (by decide) ?_
    refine x_kill 5 (ls2 := [(4, 0), jA 1, jA 166, jA 180, jI i, jN, jI v4]) rfl ?_
    refine x_kill 6 (ls2 := [(4, 0), jA 1, jA 166, jA 180, jI i, jN, jN]) rfl ?_
    refine x_widen (kc2 := kc + 4) (ks2 := ks + 24) (by omega) (by omega) ?_
    cases h
    exact kk
set_option maxHeartbeats 4000000 in
theorem st_7 {C : jC} {X : jX} (hC : jOk C X RL cL_law 7 180 60) (hSc : jSc C X) (hNs : jNs C) {kc ks : Nat} (hro : jRo C (kc + 4) (ks + 24)) {i : Int} {a1 : Int} {a2 : Int} {a3 : Int} (hi1 : 0 ≤ jw (i + 1) ∧ jw (i + 1) < ((jXs X).2.1 : Nat)) (ha1 : jsx X (jw (i + 1)) = a1) (hi2 : 0 ≤ jw (i + 2) ∧ jw (i + 2) < ((jXs X).2.1 : Nat)) (ha2 : jsx X (jw (i + 2)) = a2) (hi3 : 0 ≤ jw (i + 3) ∧ jw (i + 3) < ((jXs X).2.1 : Nat)) (ha3 : jsx X (jw (i + 3)) = a3) {M Mz : jM} (h : s_7 a1 a2 a3 M = some Mz) (kk : jG C X 180 7 (kc + 4) (ks + 24) 2756 [(4, 0), jA 1, jA 166, jA 180, jI i, jN, jN] [] Mz) : jG C X 180 7 kc ks 623 [(4, 0), jA 1, jA 166, jA 180, jI i, jN, jN] [] M := by
  unfold s_7 at h
  refine x_aloadA_n (pc := 623) hC dL_law_623 rfl rfl kk_1 (by decide) ?_
  refine x_aload_n (pc := 624) hC dL_law_624 rfl rfl (show (4 : Nat) ≠ 0 by decide) rfl ?_
  refine x_iload (pc := 625) hC dL_law_625 rfl ?_
  refine x_iconst (pc := 627) hC dL_law_627 ?_
  refine x_iadd (pc := 628) hC dL_law_628 ?_
  refine x_sa (pc := 629) hC hSc hi1 ha1 dL_law_629 ?_
  refine x_aload_n (pc := 630) hC dL_law_630 rfl rfl (show (4 : Nat) ≠ 0 by decide) rfl ?_
  refine x_iload (pc := 631) hC dL_law_631 rfl ?_
  refine x_iconst (pc := 633) hC dL_law_633 ?_
  refine x_iadd (pc := 634) hC dL_law_634 ?_
  refine x_sa (pc := 635) hC hSc hi2 ha2 dL_law_635 ?_
  refine x_aload_n (pc := 636) hC dL_law_636 rfl rfl (show (4 : Nat) ≠ 0 by decide) rfl ?_
  refine x_iload (pc := 637) hC dL_law_637 rfl ?_
  refine x_iconst (pc := 639) hC dL_law_639 ?_
  refine x_iadd (pc := 640) hC dL_law_640 ?_
  refine x_sa (pc := 641) hC hSc hi3 ha3 dL_law_641 ?_
  refine x_aloadA_n (pc := 642) hC dL_law_642 rfl rfl kk_180 (by decide) ?_
  obtain ⟨v1, M3, e2, h⟩ := jbW_some h
  refine x_cSW (pc := 643) hC hNs mw_L_162 (ok_L_grade (Nat.le_of_ble_eq_true rfl) e2) rfl (Nat.le_of_ble_eq_true rfl) (hro.sub (by omega) (by omega)) (Nat.le_of_ble_eq_true rfl) dL_law_643 rfl (kc2 := kc + 3) (ks2 := ks + 18) rfl rfl ?_
  refine x_istore (ls2 := [(4, 0), jA 1, jA 166, jA 180, jI i, jI v1, jN]) (pc := 646) hC dL_law_646 (by decide) rfl rfl rfl ?_
  refine x_aloadA_n (pc := 648) hC dL_law_648 rfl rfl kk_166 (by decide) ?_
  refine x_aload_n (pc := 649) hC dL_law_649 rfl rfl (show (4 : Nat) ≠ 0 by decide) rfl ?_
  refine x_iload (pc := 650) hC dL_law_650 rfl ?_
  refine x_iconst (pc := 652) hC dL_law_652 ?_
  refine x_iadd (pc := 653) hC dL_law_653 ?_
  refine x_sa (pc := 654) hC hSc hi1 ha1 dL_law_654 ?_
  refine x_aload_n (pc := 655) hC dL_law_655 rfl rfl (show (4 : Nat) ≠ 0 by decide) rfl ?_
  refine x_iload (pc := 656) hC dL_law_656 rfl ?_
  refine x_iconst (pc := 658) hC dL_law_658 ?_
  refine x_iadd (pc := 659) hC dL_law_659 ?_
  refine x_sa (pc := 660) hC hSc hi2 ha2 dL_law_660 ?_
  refine x_aload_n (pc := 661) hC dL_law_661 rfl rfl (show (4 : Nat) ≠ 0 by decide) rfl ?_
  refine x_iload (pc := 662) hC dL_law_662 rfl ?_
  refine x_iconst (pc := 664) hC dL_law_664 ?_
  refine x_iadd (pc := 665) hC dL_law_665 ?_
  refine x_sa (pc := 666) hC hSc hi3 ha3 dL_law_666 ?_
  obtain ⟨v4, M6, e5, h⟩ := jbW_some h
  refine x_cV (pc := 667) hC mv_L_164 (ok_X10_grade (Nat.le_of_ble_eq_true rfl) e5) rfl (Nat.le_of_ble_eq_true rfl) kk_166 rfl (by decide) (hro.sub (by omega) (by omega)) (Nat.le_of_ble_eq_true rfl) dL_law_667 rfl ?_
  refine x_istore (ls2 := [(4, 0), jA 1, jA 166, jA 180, jI i, jI v1, jI v4]) (pc := 670) hC dL_law_670 (by decide) rfl rfl rfl ?_
  refine x_aloadA_n (pc := 672) hC dL_law_672 rfl rfl kk_166 (by decide) ?_
  obtain ⟨v7, e8, h⟩ := jbR_some h
  refine x_cV (pc := 673) hC mv_L_143 (ok_X10_thrown (Nat.le_of_ble_eq_true rfl) e8) rfl (Nat.le_of_ble_eq_true rfl) kk_166 rfl (by decide) (hro.sub (by omega) (by omega)) (Nat.le_of_ble_eq_true rfl) dL_law_673 rfl ?_
  refine x_iload (pc := 676) hC dL_law_676 rfl ?_
  obtain ⟨hk9, h⟩ := jck_some h
  refine x_icmp_eq (tgt := 683) (pc := 678) hC dL_law_678 (by decide) (fun _ => ?_) (fun hc => absurd hk9 hc)
  refine x_iload (pc := 683) hC dL_law_683 rfl ?_
  refine x_if_ne (tgt := 700) (pc := 685) hC dL_law_685 (by decide) (fun hc => ?_) (fun hc => ?_)
  · replace h := jit_neg hc h
    refine x_goto (tgt := 2756) (pc := 700) hC dL_law_700 (by decide) ?_
    refine x_kill 5 (ls2 := [(4, 0), jA 1, jA 166, jA 180, jI i, jN, jI v4]) rfl ?_
    refine x_kill 6 (ls2 := [(4, 0), jA 1, jA 166, jA 180, jI i, jN, jN]) rfl ?_
    refine x_widen (kc2 := kc + 4) (ks2 := ks + 24) (by omega) (by omega) ?_
    cases h
    exact kk
  · replace h := jit_pos hc h
    refine x_aloadA_n (pc := 688) hC dL_law_688 rfl rfl kk_180 (by decide) ?_
    refine x_iconst (pc := 689) hC dL_law_689 ?_
    refine x_lald (pc := 690) hC kk_180 (by decide) (by decide +kernel) dL_law_690 ?_
    refine x_iload (pc := 691) hC dL_law_691 rfl ?_
    refine x_i2l (pc := 693) hC dL_law_693 ?_
    refine x_lcmp (pc := 694) hC dL_law_694 ?_
    obtain ⟨hk10, h⟩ := jck_some h
    refine x_if_eq (tgt := 700) (pc := 695) hC dL_law_695 (by decide) (fun _ => ?_) (fun hc => absurd hk10 hc)
    refine x_goto (tgt := 2756) (pc := 700) hC dL_law_700 (by decide) ?_
    refine x_kill 5 (ls2 := [(4, 0), jA 1, jA 166, jA 180, jI i, jN, jI v4]) rfl ?_
    refine x_kill 6 (ls2 := [(4, 0), jA 1, jA 166, jA 180, jI i, jN, jN]) rfl ?_
    refine x_widen (kc2 := kc + 4) (ks2 := ks + 24) (by omega) (by omega) ?_
    cases h
    exact kk
set_option maxHeartbeats 4000000 in
theorem st_8 {C : jC} {X : jX} (hC : jOk C X RL cL_law 7 180 60) (hSc : jSc C X) (hNs : jNs C) {kc ks : Nat} (hro : jRo C (kc + 4) (ks + 24)) {i : Int} {a1 : Int} {a2 : Int} (hi1 : 0 ≤ jw (i + 1) ∧ jw (i + 1) < ((jXs X).2.1 : Nat)) (ha1 : jsx X (jw (i + 1)) = a1) (hi2 : 0 ≤ jw (i + 2) ∧ jw (i + 2) < ((jXs X).2.1 : Nat)) (ha2 : jsx X (jw (i + 2)) = a2) {M Mz : jM} (h : s_8 a1 a2 M = some Mz) (kk : jG C X 180 7 (kc + 4) (ks + 24) 2756 [(4, 0), jA 1, jA 166, jA 180, jI i, jN, jN] [] Mz) : jG C X 180 7 kc ks 703 [(4, 0), jA 1, jA 166, jA 180, jI i, jN, jN] [] M := by
  unfold s_8 at h
  refine x_aloadA_n (pc := 703) hC dL_law_703 rfl rfl kk_1 (by decide) ?_
  refine x_aload_n (pc := 704) hC dL_law_704 rfl rfl (show (4 : Nat) ≠ 0 by decide) rfl ?_
  refine x_iload (pc := 705) hC dL_law_705 rfl ?_
  refine x_iconst (pc := 707) hC dL_law_707 ?_
  refine x_iadd (pc := 708) hC dL_law_708 ?_
  refine x_sa (pc := 709) hC hSc hi1 ha1 dL_law_709 ?_
  refine x_aload_n (pc := 710) hC dL_law_710 rfl rfl (show (4 : Nat) ≠ 0 by decide) rfl ?_
  refine x_iload (pc := 711) hC dL_law_711 rfl ?_
  refine x_iconst (pc := 713) hC dL_law_713 ?_
  refine x_iadd (pc := 714) hC dL_law_714 ?_
  refine x_sa (pc := 715) hC hSc hi2 ha2 dL_law_715 ?_
  refine x_aloadA_n (pc := 716) hC dL_law_716 rfl rfl kk_180 (by decide) ?_
  obtain ⟨v1, M3, e2, h⟩ := jbW_some h
  refine x_cSW (pc := 717) hC hNs mw_L_165 (ok_L_mean (Nat.le_of_ble_eq_true rfl) e2) rfl (Nat.le_of_ble_eq_true rfl) (hro.sub (by omega) (by omega)) (Nat.le_of_ble_eq_true rfl) dL_law_717 rfl (kc2 := kc + 2) (ks2 := ks + 12) rfl rfl ?_
  refine x_istore (ls2 := [(4, 0), jA 1, jA 166, jA 180, jI i, jI v1, jN]) (pc := 720) hC dL_law_720 (by decide) rfl rfl rfl ?_
  refine x_aloadA_n (pc := 722) hC dL_law_722 rfl rfl kk_166 (by decide) ?_
  refine x_aload_n (pc := 723) hC dL_law_723 rfl rfl (show (4 : Nat) ≠ 0 by decide) rfl ?_
  refine x_iload (pc := 724) hC dL_law_724 rfl ?_
  refine x_iconst (pc := 726) hC dL_law_726 ?_
  refine x_iadd (pc := 727) hC dL_law_727 ?_
  refine x_sa (pc := 728) hC hSc hi1 ha1 dL_law_728 ?_
  refine x_aload_n (pc := 729) hC dL_law_729 rfl rfl (show (4 : Nat) ≠ 0 by decide) rfl ?_
  refine x_iload (pc := 730) hC dL_law_730 rfl ?_
  refine x_iconst (pc := 732) hC dL_law_732 ?_
  refine x_iadd (pc := 733) hC dL_law_733 ?_
  refine x_sa (pc := 734) hC hSc hi2 ha2 dL_law_734 ?_
  obtain ⟨v4, M6, e5, h⟩ := jbW_some h
  refine x_cV (pc := 735) hC mv_L_167 (ok_X10_mean (Nat.le_of_ble_eq_true rfl) e5) rfl (Nat.le_of_ble_eq_true rfl) kk_166 rfl (by decide) (hro.sub (by omega) (by omega)) (Nat.le_of_ble_eq_true rfl) dL_law_735 rfl ?_
  refine x_istore (ls2 := [(4, 0), jA 1, jA 166, jA 180, jI i, jI v1, jI v4]) (pc := 738) hC dL_law_738 (by decide) rfl rfl rfl ?_
  refine x_aloadA_n (pc := 740) hC dL_law_740 rfl rfl kk_166 (by decide) ?_
  obtain ⟨v7, e8, h⟩ := jbR_some h
  refine x_cV (pc := 741) hC mv_L_143 (ok_X10_thrown (Nat.le_of_ble_eq_true rfl) e8) rfl (Nat.le_of_ble_eq_true rfl) kk_166 rfl (by decide) (hro.sub (by omega) (by omega)) (Nat.le_of_ble_eq_true rfl) dL_law_741 rfl ?_
  refine x_iload (pc := 744) hC dL_law_744 rfl ?_
  obtain ⟨hk9, h⟩ := jck_some h
  refine x_icmp_eq (tgt := 751) (pc := 746) hC dL_law_746 (by decide) (fun _ => ?_) (fun hc => absurd hk9 hc)
  refine x_iload (pc := 751) hC dL_law_751 rfl ?_
  refine x_if_ne (tgt := 768) (pc := 753) hC dL_law_753 (by decide) (fun hc => ?_) (fun hc => ?_)
  · replace h := jit_neg hc h
    refine x_goto (tgt := 2756) (pc := 768) hC dL_law_768 (by decide) ?_
    refine x_kill 5 (ls2 := [(4, 0), jA 1, jA 166, jA 180, jI i, jN, jI v4]) rfl ?_
    refine x_kill 6 (ls2 := [(4, 0), jA 1, jA 166, jA 180, jI i, jN, jN]) rfl ?_
    refine x_widen (kc2 := kc + 4) (ks2 := ks + 24) (by omega) (by omega) ?_
    cases h
    exact kk
  · replace h := jit_pos hc h
    refine x_aloadA_n (pc := 756) hC dL_law_756 rfl rfl kk_180 (by decide) ?_
    refine x_iconst (pc := 757) hC dL_law_757 ?_
    refine x_lald (pc := 758) hC kk_180 (by decide) (by decide +kernel) dL_law_758 ?_
    refine x_iload (pc := 759) hC dL_law_759 rfl ?_
    refine x_i2l (pc := 761) hC dL_law_761 ?_
    refine x_lcmp (pc := 762) hC dL_law_762 ?_
    obtain ⟨hk10, h⟩ := jck_some h
    refine x_if_eq (tgt := 768) (pc := 763) hC dL_law_763 (by decide) (fun _ => ?_) (fun hc => absurd hk10 hc)
    refine x_goto (tgt := 2756) (pc := 768) hC dL_law_768 (by decide) ?_
    refine x_kill 5 (ls2 := [(4, 0), jA 1, jA 166, jA 180, jI i, jN, jI v4]) rfl ?_
    refine x_kill 6 (ls2 := [(4, 0), jA 1, jA 166, jA 180, jI i, jN, jN]) rfl ?_
    refine x_widen (kc2 := kc + 4) (ks2 := ks + 24) (by omega) (by omega) ?_
    cases h
    exact kk
set_option maxHeartbeats 4000000 in
theorem st_9 {C : jC} {X : jX} (hC : jOk C X RL cL_law 7 180 60) (hSc : jSc C X) (hNs : jNs C) {kc ks : Nat} (hro : jRo C (kc + 4) (ks + 24)) {i : Int} {a1 : Int} {a2 : Int} {a3 : Int} (hi1 : 0 ≤ jw (i + 1) ∧ jw (i + 1) < ((jXs X).2.1 : Nat)) (ha1 : jsx X (jw (i + 1)) = a1) (hi2 : 0 ≤ jw (i + 2) ∧ jw (i + 2) < ((jXs X).2.1 : Nat)) (ha2 : jsx X (jw (i + 2)) = a2) (hi3 : 0 ≤ jw (i + 3) ∧ jw (i + 3) < ((jXs X).2.1 : Nat)) (ha3 : jsx X (jw (i + 3)) = a3) {M Mz : jM} (h : s_9 a1 a2 a3 M = some Mz) (kk : jG C X 180 7 (kc + 4) (ks + 24) 2756 [(4, 0), jA 1, jA 166, jA 180, jI i, jN, jN] [] Mz) : jG C X 180 7 kc ks 771 [(4, 0), jA 1, jA 166, jA 180, jI i, jN, jN] [] M := by
  unfold s_9 at h
  refine x_aloadA_n (pc := 771) hC dL_law_771 rfl rfl kk_1 (by decide) ?_
  refine x_aload_n (pc := 772) hC dL_law_772 rfl rfl (show (4 : Nat) ≠ 0 by decide) rfl ?_
  refine x_iload (pc := 773) hC dL_law_773 rfl ?_
  refine x_iconst (pc := 775) hC dL_law_775 ?_
  refine x_iadd (pc := 776) hC dL_law_776 ?_
  refine x_sa (pc := 777) hC hSc hi1 ha1 dL_law_777 ?_
  refine x_aload_n (pc := 778) hC dL_law_778 rfl rfl (show (4 : Nat) ≠ 0 by decide) rfl ?_
  refine x_iload (pc := 779) hC dL_law_779 rfl ?_
  refine x_iconst (pc := 781) hC dL_law_781 ?_
  refine x_iadd (pc := 782) hC dL_law_782 ?_
  refine x_sa (pc := 783) hC hSc hi2 ha2 dL_law_783 ?_
  refine x_aload_n (pc := 784) hC dL_law_784 rfl rfl (show (4 : Nat) ≠ 0 by decide) rfl ?_
  refine x_iload (pc := 785) hC dL_law_785 rfl ?_
  refine x_iconst (pc := 787) hC dL_law_787 ?_
  refine x_iadd (pc := 788) hC dL_law_788 ?_
  refine x_sa (pc := 789) hC hSc hi3 ha3 dL_law_789 ?_
  refine x_aloadA_n (pc := 790) hC dL_law_790 rfl rfl kk_180 (by decide) ?_
  obtain ⟨v1, M3, e2, h⟩ := jbW_some h
  refine x_cSW (pc := 791) hC hNs mw_L_168 (ok_L_mark (Nat.le_of_ble_eq_true rfl) e2) rfl (Nat.le_of_ble_eq_true rfl) (hro.sub (by omega) (by omega)) (Nat.le_of_ble_eq_true rfl) dL_law_791 rfl (kc2 := kc + 3) (ks2 := ks + 18) rfl rfl ?_
  refine x_istore (ls2 := [(4, 0), jA 1, jA 166, jA 180, jI i, jI v1, jN]) (pc := 794) hC dL_law_794 (by decide) rfl rfl rfl ?_
  refine x_aloadA_n (pc := 796) hC dL_law_796 rfl rfl kk_166 (by decide) ?_
  refine x_aload_n (pc := 797) hC dL_law_797 rfl rfl (show (4 : Nat) ≠ 0 by decide) rfl ?_
  refine x_iload (pc := 798) hC dL_law_798 rfl ?_
  refine x_iconst (pc := 800) hC dL_law_800 ?_
  refine x_iadd (pc := 801) hC dL_law_801 ?_
  refine x_sa (pc := 802) hC hSc hi1 ha1 dL_law_802 ?_
  refine x_aload_n (pc := 803) hC dL_law_803 rfl rfl (show (4 : Nat) ≠ 0 by decide) rfl ?_
  refine x_iload (pc := 804) hC dL_law_804 rfl ?_
  refine x_iconst (pc := 806) hC dL_law_806 ?_
  refine x_iadd (pc := 807) hC dL_law_807 ?_
  refine x_sa (pc := 808) hC hSc hi2 ha2 dL_law_808 ?_
  refine x_aload_n (pc := 809) hC dL_law_809 rfl rfl (show (4 : Nat) ≠ 0 by decide) rfl ?_
  refine x_iload (pc := 810) hC dL_law_810 rfl ?_
  refine x_iconst (pc := 812) hC dL_law_812 ?_
  refine x_iadd (pc := 813) hC dL_law_813 ?_
  refine x_sa (pc := 814) hC hSc hi3 ha3 dL_law_814 ?_
  obtain ⟨v4, M6, e5, h⟩ := jbW_some h
  refine x_cV (pc := 815) hC mv_L_170 (ok_X10_mark (Nat.le_of_ble_eq_true rfl) e5) rfl (Nat.le_of_ble_eq_true rfl) kk_166 rfl (by decide) (hro.sub (by omega) (by omega)) (Nat.le_of_ble_eq_true rfl) dL_law_815 rfl ?_
  refine x_istore (ls2 := [(4, 0), jA 1, jA 166, jA 180, jI i, jI v1, jI v4]) (pc := 818) hC dL_law_818 (by decide) rfl rfl rfl ?_
  refine x_aloadA_n (pc := 820) hC dL_law_820 rfl rfl kk_166 (by decide) ?_
  obtain ⟨v7, e8, h⟩ := jbR_some h
  refine x_cV (pc := 821) hC mv_L_143 (ok_X10_thrown (Nat.le_of_ble_eq_true rfl) e8) rfl (Nat.le_of_ble_eq_true rfl) kk_166 rfl (by decide) (hro.sub (by omega) (by omega)) (Nat.le_of_ble_eq_true rfl) dL_law_821 rfl ?_
  refine x_iload (pc := 824) hC dL_law_824 rfl ?_
  obtain ⟨hk9, h⟩ := jck_some h
  refine x_icmp_eq (tgt := 831) (pc := 826) hC dL_law_826 (by decide) (fun _ => ?_) (fun hc => absurd hk9 hc)
  refine x_iload (pc := 831) hC dL_law_831 rfl ?_
  refine x_if_ne (tgt := 848) (pc := 833) hC dL_law_833 (by decide) (fun hc => ?_) (fun hc => ?_)
  · replace h := jit_neg hc h
    refine x_goto (tgt := 2756) (pc := 848) hC dL_law_848 (by decide) ?_
    refine x_kill 5 (ls2 := [(4, 0), jA 1, jA 166, jA 180, jI i, jN, jI v4]) rfl ?_
    refine x_kill 6 (ls2 := [(4, 0), jA 1, jA 166, jA 180, jI i, jN, jN]) rfl ?_
    refine x_widen (kc2 := kc + 4) (ks2 := ks + 24) (by omega) (by omega) ?_
    cases h
    exact kk
  · replace h := jit_pos hc h
    refine x_aloadA_n (pc := 836) hC dL_law_836 rfl rfl kk_180 (by decide) ?_
    refine x_iconst (pc := 837) hC dL_law_837 ?_
    refine x_lald (pc := 838) hC kk_180 (by decide) (by decide +kernel) dL_law_838 ?_
    refine x_iload (pc := 839) hC dL_law_839 rfl ?_
    refine x_i2l (pc := 841) hC dL_law_841 ?_
    refine x_lcmp (pc := 842) hC dL_law_842 ?_
    obtain ⟨hk10, h⟩ := jck_some h
    refine x_if_eq (tgt := 848) (pc := 843) hC dL_law_843 (by decide) (fun _ => ?_) (fun hc => absurd hk10 hc)
    refine x_goto (tgt := 2756) (pc := 848) hC dL_law_848 (by decide) ?_
    refine x_kill 5 (ls2 := [(4, 0), jA 1, jA 166, jA 180, jI i, jN, jI v4]) rfl ?_
    refine x_kill 6 (ls2 := [(4, 0), jA 1, jA 166, jA 180, jI i, jN, jN]) rfl ?_
    refine x_widen (kc2 := kc + 4) (ks2 := ks + 24) (by omega) (by omega) ?_
    cases h
    exact kk
set_option maxHeartbeats 4000000 in
theorem st_10 {C : jC} {X : jX} (hC : jOk C X RL cL_law 7 180 60) (hSc : jSc C X) (hNs : jNs C) {kc ks : Nat} (hro : jRo C (kc + 4) (ks + 24)) {i : Int} {a1 : Int} {a2 : Int} (hi1 : 0 ≤ jw (i + 1) ∧ jw (i + 1) < ((jXs X).2.1 : Nat)) (ha1 : jsx X (jw (i + 1)) = a1) (hi2 : 0 ≤ jw (i + 2) ∧ jw (i + 2) < ((jXs X).2.1 : Nat)) (ha2 : jsx X (jw (i + 2)) = a2) {M Mz : jM} (h : s_10 a1 a2 M = some Mz) (kk : jG C X 180 7 (kc + 4) (ks + 24) 2756 [(4, 0), jA 1, jA 166, jA 180, jI i, jN, jN] [] Mz) : jG C X 180 7 kc ks 851 [(4, 0), jA 1, jA 166, jA 180, jI i, jN, jN] [] M := by
  unfold s_10 at h
  refine x_aloadA_n (pc := 851) hC dL_law_851 rfl rfl kk_1 (by decide) ?_
  refine x_aload_n (pc := 852) hC dL_law_852 rfl rfl (show (4 : Nat) ≠ 0 by decide) rfl ?_
  refine x_iload (pc := 853) hC dL_law_853 rfl ?_
  refine x_iconst (pc := 855) hC dL_law_855 ?_
  refine x_iadd (pc := 856) hC dL_law_856 ?_
  refine x_sa (pc := 857) hC hSc hi1 ha1 dL_law_857 ?_
  refine x_aload_n (pc := 858) hC dL_law_858 rfl rfl (show (4 : Nat) ≠ 0 by decide) rfl ?_
  refine x_iload (pc := 859) hC dL_law_859 rfl ?_
  refine x_iconst (pc := 861) hC dL_law_861 ?_
  refine x_iadd (pc := 862) hC dL_law_862 ?_
  refine x_sa (pc := 863) hC hSc hi2 ha2 dL_law_863 ?_
  refine x_aloadA_n (pc := 864) hC dL_law_864 rfl rfl kk_180 (by decide) ?_
  obtain ⟨v1, M3, e2, h⟩ := jbW_some h
  refine x_cSW (pc := 865) hC hNs mw_L_171 (ok_L_component (Nat.le_of_ble_eq_true rfl) e2) rfl (Nat.le_of_ble_eq_true rfl) (hro.sub (by omega) (by omega)) (Nat.le_of_ble_eq_true rfl) dL_law_865 rfl (kc2 := kc + 2) (ks2 := ks + 12) rfl rfl ?_
  refine x_istore (ls2 := [(4, 0), jA 1, jA 166, jA 180, jI i, jI v1, jN]) (pc := 868) hC dL_law_868 (by decide) rfl rfl rfl ?_
  refine x_aloadA_n (pc := 870) hC dL_law_870 rfl rfl kk_166 (by decide) ?_
  refine x_aload_n (pc := 871) hC dL_law_871 rfl rfl (show (4 : Nat) ≠ 0 by decide) rfl ?_
  refine x_iload (pc := 872) hC dL_law_872 rfl ?_
  refine x_iconst (pc := 874) hC dL_law_874 ?_
  refine x_iadd (pc := 875) hC dL_law_875 ?_
  refine x_sa (pc := 876) hC hSc hi1 ha1 dL_law_876 ?_
  refine x_aload_n (pc := 877) hC dL_law_877 rfl rfl (show (4 : Nat) ≠ 0 by decide) rfl ?_
  refine x_iload (pc := 878) hC dL_law_878 rfl ?_
  refine x_iconst (pc := 880) hC dL_law_880 ?_
  refine x_iadd (pc := 881) hC dL_law_881 ?_
  refine x_sa (pc := 882) hC hSc hi2 ha2 dL_law_882 ?_
  obtain ⟨v4, M6, e5, h⟩ := jbW_some h
  refine x_cV (pc := 883) hC mv_L_173 (ok_X10_component (Nat.le_of_ble_eq_true rfl) e5) rfl (Nat.le_of_ble_eq_true rfl) kk_166 rfl (by decide) (hro.sub (by omega) (by omega)) (Nat.le_of_ble_eq_true rfl) dL_law_883 rfl ?_
  refine x_istore (ls2 := [(4, 0), jA 1, jA 166, jA 180, jI i, jI v1, jI v4]) (pc := 886) hC dL_law_886 (by decide) rfl rfl rfl ?_
  refine x_aloadA_n (pc := 888) hC dL_law_888 rfl rfl kk_166 (by decide) ?_
  obtain ⟨v7, e8, h⟩ := jbR_some h
  refine x_cV (pc := 889) hC mv_L_143 (ok_X10_thrown (Nat.le_of_ble_eq_true rfl) e8) rfl (Nat.le_of_ble_eq_true rfl) kk_166 rfl (by decide) (hro.sub (by omega) (by omega)) (Nat.le_of_ble_eq_true rfl) dL_law_889 rfl ?_
  refine x_iload (pc := 892) hC dL_law_892 rfl ?_
  obtain ⟨hk9, h⟩ := jck_some h
  refine x_icmp_eq (tgt := 899) (pc := 894) hC dL_law_894 (by decide) (fun _ => ?_) (fun hc => absurd hk9 hc)
  refine x_iload (pc := 899) hC dL_law_899 rfl ?_
  refine x_if_ne (tgt := 916) (pc := 901) hC dL_law_901 (by decide) (fun hc => ?_) (fun hc => ?_)
  · replace h := jit_neg hc h
    refine x_goto (tgt := 2756) (pc := 916) hC dL_law_916 (by decide) ?_
    refine x_kill 5 (ls2 := [(4, 0), jA 1, jA 166, jA 180, jI i, jN, jI v4]) rfl ?_
    refine x_kill 6 (ls2 := [(4, 0), jA 1, jA 166, jA 180, jI i, jN, jN]) rfl ?_
    refine x_widen (kc2 := kc + 4) (ks2 := ks + 24) (by omega) (by omega) ?_
    cases h
    exact kk
  · replace h := jit_pos hc h
    refine x_aloadA_n (pc := 904) hC dL_law_904 rfl rfl kk_180 (by decide) ?_
    refine x_iconst (pc := 905) hC dL_law_905 ?_
    refine x_lald (pc := 906) hC kk_180 (by decide) (by decide +kernel) dL_law_906 ?_
    refine x_iload (pc := 907) hC dL_law_907 rfl ?_
    refine x_i2l (pc := 909) hC dL_law_909 ?_
    refine x_lcmp (pc := 910) hC dL_law_910 ?_
    obtain ⟨hk10, h⟩ := jck_some h
    refine x_if_eq (tgt := 916) (pc := 911) hC dL_law_911 (by decide) (fun _ => ?_) (fun hc => absurd hk10 hc)
    refine x_goto (tgt := 2756) (pc := 916) hC dL_law_916 (by decide) ?_
    refine x_kill 5 (ls2 := [(4, 0), jA 1, jA 166, jA 180, jI i, jN, jI v4]) rfl ?_
    refine x_kill 6 (ls2 := [(4, 0), jA 1, jA 166, jA 180, jI i, jN, jN]) rfl ?_
    refine x_widen (kc2 := kc + 4) (ks2 := ks + 24) (by omega) (by omega) ?_
    cases h
    exact kk
set_option maxHeartbeats 4000000 in
theorem st_11 {C : jC} {X : jX} (hC : jOk C X RL cL_law 7 180 60) (hSc : jSc C X) (hNs : jNs C) {kc ks : Nat} (hro : jRo C (kc + 4) (ks + 24)) {i : Int} {a1 : Int} {a2 : Int} (hi1 : 0 ≤ jw (i + 1) ∧ jw (i + 1) < ((jXs X).2.1 : Nat)) (ha1 : jsx X (jw (i + 1)) = a1) (hi2 : 0 ≤ jw (i + 2) ∧ jw (i + 2) < ((jXs X).2.1 : Nat)) (ha2 : jsx X (jw (i + 2)) = a2) {M Mz : jM} (h : s_11 a1 a2 M = some Mz) (kk : jG C X 180 7 (kc + 4) (ks + 24) 2756 [(4, 0), jA 1, jA 166, jA 180, jI i, jN, jN] [] Mz) : jG C X 180 7 kc ks 919 [(4, 0), jA 1, jA 166, jA 180, jI i, jN, jN] [] M := by
  unfold s_11 at h
  refine x_aloadA_n (pc := 919) hC dL_law_919 rfl rfl kk_1 (by decide) ?_
  refine x_aload_n (pc := 920) hC dL_law_920 rfl rfl (show (4 : Nat) ≠ 0 by decide) rfl ?_
  refine x_iload (pc := 921) hC dL_law_921 rfl ?_
  refine x_iconst (pc := 923) hC dL_law_923 ?_
  refine x_iadd (pc := 924) hC dL_law_924 ?_
  refine x_sa (pc := 925) hC hSc hi1 ha1 dL_law_925 ?_
  refine x_aload_n (pc := 926) hC dL_law_926 rfl rfl (show (4 : Nat) ≠ 0 by decide) rfl ?_
  refine x_iload (pc := 927) hC dL_law_927 rfl ?_
  refine x_iconst (pc := 929) hC dL_law_929 ?_
  refine x_iadd (pc := 930) hC dL_law_930 ?_
  refine x_sa (pc := 931) hC hSc hi2 ha2 dL_law_931 ?_
  refine x_aloadA_n (pc := 932) hC dL_law_932 rfl rfl kk_180 (by decide) ?_
  obtain ⟨v1, M3, e2, h⟩ := jbW_some h
  refine x_cSW (pc := 933) hC hNs mw_L_174 (ok_L_total (Nat.le_of_ble_eq_true rfl) e2) rfl (Nat.le_of_ble_eq_true rfl) (hro.sub (by omega) (by omega)) (Nat.le_of_ble_eq_true rfl) dL_law_933 rfl (kc2 := kc + 2) (ks2 := ks + 12) rfl rfl ?_
  refine x_istore (ls2 := [(4, 0), jA 1, jA 166, jA 180, jI i, jI v1, jN]) (pc := 936) hC dL_law_936 (by decide) rfl rfl rfl ?_
  refine x_aloadA_n (pc := 938) hC dL_law_938 rfl rfl kk_166 (by decide) ?_
  refine x_aload_n (pc := 939) hC dL_law_939 rfl rfl (show (4 : Nat) ≠ 0 by decide) rfl ?_
  refine x_iload (pc := 940) hC dL_law_940 rfl ?_
  refine x_iconst (pc := 942) hC dL_law_942 ?_
  refine x_iadd (pc := 943) hC dL_law_943 ?_
  refine x_sa (pc := 944) hC hSc hi1 ha1 dL_law_944 ?_
  refine x_aload_n (pc := 945) hC dL_law_945 rfl rfl (show (4 : Nat) ≠ 0 by decide) rfl ?_
  refine x_iload (pc := 946) hC dL_law_946 rfl ?_
  refine x_iconst (pc := 948) hC dL_law_948 ?_
  refine x_iadd (pc := 949) hC dL_law_949 ?_
  refine x_sa (pc := 950) hC hSc hi2 ha2 dL_law_950 ?_
  obtain ⟨v4, M6, e5, h⟩ := jbW_some h
  refine x_cV (pc := 951) hC mv_L_176 (ok_X10_total (Nat.le_of_ble_eq_true rfl) e5) rfl (Nat.le_of_ble_eq_true rfl) kk_166 rfl (by decide) (hro.sub (by omega) (by omega)) (Nat.le_of_ble_eq_true rfl) dL_law_951 rfl ?_
  refine x_istore (ls2 := [(4, 0), jA 1, jA 166, jA 180, jI i, jI v1, jI v4]) (pc := 954) hC dL_law_954 (by decide) rfl rfl rfl ?_
  refine x_aloadA_n (pc := 956) hC dL_law_956 rfl rfl kk_166 (by decide) ?_
  obtain ⟨v7, e8, h⟩ := jbR_some h
  refine x_cV (pc := 957) hC mv_L_143 (ok_X10_thrown (Nat.le_of_ble_eq_true rfl) e8) rfl (Nat.le_of_ble_eq_true rfl) kk_166 rfl (by decide) (hro.sub (by omega) (by omega)) (Nat.le_of_ble_eq_true rfl) dL_law_957 rfl ?_
  refine x_iload (pc := 960) hC dL_law_960 rfl ?_
  obtain ⟨hk9, h⟩ := jck_some h
  refine x_icmp_eq (tgt := 967) (pc := 962) hC dL_law_962 (by decide) (fun _ => ?_) (fun hc => absurd hk9 hc)
  refine x_iload (pc := 967) hC dL_law_967 rfl ?_
  refine x_if_ne (tgt := 984) (pc := 969) hC dL_law_969 (by decide) (fun hc => ?_) (fun hc => ?_)
  · replace h := jit_neg hc h
    refine x_goto (tgt := 2756) (pc := 984) hC dL_law_984 (by decide) ?_
    refine x_kill 5 (ls2 := [(4, 0), jA 1, jA 166, jA 180, jI i, jN, jI v4]) rfl ?_
    refine x_kill 6 (ls2 := [(4, 0), jA 1, jA 166, jA 180, jI i, jN, jN]) rfl ?_
    refine x_widen (kc2 := kc + 4) (ks2 := ks + 24) (by omega) (by omega) ?_
    cases h
    exact kk
  · replace h := jit_pos hc h
    refine x_aloadA_n (pc := 972) hC dL_law_972 rfl rfl kk_180 (by decide) ?_
    refine x_iconst (pc := 973) hC dL_law_973 ?_
    refine x_lald (pc := 974) hC kk_180 (by decide) (by decide +kernel) dL_law_974 ?_
    refine x_iload (pc := 975) hC dL_law_975 rfl ?_
    refine x_i2l (pc := 977) hC dL_law_977 ?_
    refine x_lcmp (pc := 978) hC dL_law_978 ?_
    obtain ⟨hk10, h⟩ := jck_some h
    refine x_if_eq (tgt := 984) (pc := 979) hC dL_law_979 (by decide) (fun _ => ?_) (fun hc => absurd hk10 hc)
    refine x_goto (tgt := 2756) (pc := 984) hC dL_law_984 (by decide) ?_
    refine x_kill 5 (ls2 := [(4, 0), jA 1, jA 166, jA 180, jI i, jN, jI v4]) rfl ?_
    refine x_kill 6 (ls2 := [(4, 0), jA 1, jA 166, jA 180, jI i, jN, jN]) rfl ?_
    refine x_widen (kc2 := kc + 4) (ks2 := ks + 24) (by omega) (by omega) ?_
    cases h
    exact kk
set_option maxHeartbeats 4000000 in
theorem st_12 {C : jC} {X : jX} (hC : jOk C X RL cL_law 7 180 60) (hSc : jSc C X) (hNs : jNs C) {kc ks : Nat} (hro : jRo C (kc + 4) (ks + 24)) {i : Int} {a1 : Int} {a2 : Int} (hi1 : 0 ≤ jw (i + 1) ∧ jw (i + 1) < ((jXs X).2.1 : Nat)) (ha1 : jsx X (jw (i + 1)) = a1) (hi2 : 0 ≤ jw (i + 2) ∧ jw (i + 2) < ((jXs X).2.1 : Nat)) (ha2 : jsx X (jw (i + 2)) = a2) {M Mz : jM} (h : s_12 a1 a2 M = some Mz) (kk : jG C X 180 7 (kc + 4) (ks + 24) 2756 [(4, 0), jA 1, jA 166, jA 180, jI i, jN, jN] [] Mz) : jG C X 180 7 kc ks 987 [(4, 0), jA 1, jA 166, jA 180, jI i, jN, jN] [] M := by
  unfold s_12 at h
  refine x_aloadA_n (pc := 987) hC dL_law_987 rfl rfl kk_1 (by decide) ?_
  refine x_aload_n (pc := 988) hC dL_law_988 rfl rfl (show (4 : Nat) ≠ 0 by decide) rfl ?_
  refine x_iload (pc := 989) hC dL_law_989 rfl ?_
  refine x_iconst (pc := 991) hC dL_law_991 ?_
  refine x_iadd (pc := 992) hC dL_law_992 ?_
  refine x_sa (pc := 993) hC hSc hi1 ha1 dL_law_993 ?_
  refine x_aload_n (pc := 994) hC dL_law_994 rfl rfl (show (4 : Nat) ≠ 0 by decide) rfl ?_
  refine x_iload (pc := 995) hC dL_law_995 rfl ?_
  refine x_iconst (pc := 997) hC dL_law_997 ?_
  refine x_iadd (pc := 998) hC dL_law_998 ?_
  refine x_sa (pc := 999) hC hSc hi2 ha2 dL_law_999 ?_
  refine x_aloadA_n (pc := 1000) hC dL_law_1000 rfl rfl kk_180 (by decide) ?_
  obtain ⟨v1, M3, e2, h⟩ := jbW_some h
  refine x_cSW (pc := 1001) hC hNs mw_L_177 (ok_L_rule (Nat.le_of_ble_eq_true rfl) e2) rfl (Nat.le_of_ble_eq_true rfl) (hro.sub (by omega) (by omega)) (Nat.le_of_ble_eq_true rfl) dL_law_1001 rfl (kc2 := kc + 2) (ks2 := ks + 12) rfl rfl ?_
  refine x_istore (ls2 := [(4, 0), jA 1, jA 166, jA 180, jI i, jI v1, jN]) (pc := 1004) hC dL_law_1004 (by decide) rfl rfl rfl ?_
  refine x_aloadA_n (pc := 1006) hC dL_law_1006 rfl rfl kk_166 (by decide) ?_
  refine x_aload_n (pc := 1007) hC dL_law_1007 rfl rfl (show (4 : Nat) ≠ 0 by decide) rfl ?_
  refine x_iload (pc := 1008) hC dL_law_1008 rfl ?_
  refine x_iconst (pc := 1010) hC dL_law_1010 ?_
  refine x_iadd (pc := 1011) hC dL_law_1011 ?_
  refine x_sa (pc := 1012) hC hSc hi1 ha1 dL_law_1012 ?_
  refine x_aload_n (pc := 1013) hC dL_law_1013 rfl rfl (show (4 : Nat) ≠ 0 by decide) rfl ?_
  refine x_iload (pc := 1014) hC dL_law_1014 rfl ?_
  refine x_iconst (pc := 1016) hC dL_law_1016 ?_
  refine x_iadd (pc := 1017) hC dL_law_1017 ?_
  refine x_sa (pc := 1018) hC hSc hi2 ha2 dL_law_1018 ?_
  obtain ⟨v4, M6, e5, h⟩ := jbW_some h
  refine x_cV (pc := 1019) hC mv_L_179 (ok_X10_rule (Nat.le_of_ble_eq_true rfl) e5) rfl (Nat.le_of_ble_eq_true rfl) kk_166 rfl (by decide) (hro.sub (by omega) (by omega)) (Nat.le_of_ble_eq_true rfl) dL_law_1019 rfl ?_
  refine x_istore (ls2 := [(4, 0), jA 1, jA 166, jA 180, jI i, jI v1, jI v4]) (pc := 1022) hC dL_law_1022 (by decide) rfl rfl rfl ?_
  refine x_aloadA_n (pc := 1024) hC dL_law_1024 rfl rfl kk_166 (by decide) ?_
  obtain ⟨v7, e8, h⟩ := jbR_some h
  refine x_cV (pc := 1025) hC mv_L_143 (ok_X10_thrown (Nat.le_of_ble_eq_true rfl) e8) rfl (Nat.le_of_ble_eq_true rfl) kk_166 rfl (by decide) (hro.sub (by omega) (by omega)) (Nat.le_of_ble_eq_true rfl) dL_law_1025 rfl ?_
  refine x_iload (pc := 1028) hC dL_law_1028 rfl ?_
  obtain ⟨hk9, h⟩ := jck_some h
  refine x_icmp_eq (tgt := 1035) (pc := 1030) hC dL_law_1030 (by decide) (fun _ => ?_) (fun hc => absurd hk9 hc)
  refine x_iload (pc := 1035) hC dL_law_1035 rfl ?_
  refine x_if_ne (tgt := 1052) (pc := 1037) hC dL_law_1037 (by decide) (fun hc => ?_) (fun hc => ?_)
  · replace h := jit_neg hc h
    refine x_goto (tgt := 2756) (pc := 1052) hC dL_law_1052 (by decide) ?_
    refine x_kill 5 (ls2 := [(4, 0), jA 1, jA 166, jA 180, jI i, jN, jI v4]) rfl ?_
    refine x_kill 6 (ls2 := [(4, 0), jA 1, jA 166, jA 180, jI i, jN, jN]) rfl ?_
    refine x_widen (kc2 := kc + 4) (ks2 := ks + 24) (by omega) (by omega) ?_
    cases h
    exact kk
  · replace h := jit_pos hc h
    refine x_aloadA_n (pc := 1040) hC dL_law_1040 rfl rfl kk_180 (by decide) ?_
    refine x_iconst (pc := 1041) hC dL_law_1041 ?_
    refine x_lald (pc := 1042) hC kk_180 (by decide) (by decide +kernel) dL_law_1042 ?_
    refine x_iload (pc := 1043) hC dL_law_1043 rfl ?_
    refine x_i2l (pc := 1045) hC dL_law_1045 ?_
    refine x_lcmp (pc := 1046) hC dL_law_1046 ?_
    obtain ⟨hk10, h⟩ := jck_some h
    refine x_if_eq (tgt := 1052) (pc := 1047) hC dL_law_1047 (by decide) (fun _ => ?_) (fun hc => absurd hk10 hc)
    refine x_goto (tgt := 2756) (pc := 1052) hC dL_law_1052 (by decide) ?_
    refine x_kill 5 (ls2 := [(4, 0), jA 1, jA 166, jA 180, jI i, jN, jI v4]) rfl ?_
    refine x_kill 6 (ls2 := [(4, 0), jA 1, jA 166, jA 180, jI i, jN, jN]) rfl ?_
    refine x_widen (kc2 := kc + 4) (ks2 := ks + 24) (by omega) (by omega) ?_
    cases h
    exact kk
set_option maxHeartbeats 4000000 in
theorem st_13 {C : jC} {X : jX} (hC : jOk C X RL cL_law 7 180 60) (hSc : jSc C X) (hNs : jNs C) {kc ks : Nat} (hro : jRo C (kc + 4) (ks + 24)) {i : Int} {a1 : Int} (hi1 : 0 ≤ jw (i + 1) ∧ jw (i + 1) < ((jXs X).2.1 : Nat)) (ha1 : jsx X (jw (i + 1)) = a1) {M Mz : jM} (h : s_13 a1 M = some Mz) (kk : jG C X 180 7 (kc + 4) (ks + 24) 2756 [(4, 0), jA 1, jA 166, jA 180, jI i, jN, jN] [] Mz) : jG C X 180 7 kc ks 1055 [(4, 0), jA 1, jA 166, jA 180, jI i, jN, jN] [] M := by
  unfold s_13 at h
  refine x_aloadA_n (pc := 1055) hC dL_law_1055 rfl rfl kk_1 (by decide) ?_
  refine x_aload_n (pc := 1056) hC dL_law_1056 rfl rfl (show (4 : Nat) ≠ 0 by decide) rfl ?_
  refine x_iload (pc := 1057) hC dL_law_1057 rfl ?_
  refine x_iconst (pc := 1059) hC dL_law_1059 ?_
  refine x_iadd (pc := 1060) hC dL_law_1060 ?_
  refine x_sa (pc := 1061) hC hSc hi1 ha1 dL_law_1061 ?_
  refine x_aloadA_n (pc := 1062) hC dL_law_1062 rfl rfl kk_180 (by decide) ?_
  obtain ⟨v1, M3, e2, h⟩ := jbW_some h
  refine x_cSW (pc := 1063) hC hNs mw_L_180 (ok_L_rank (Nat.le_of_ble_eq_true rfl) e2) rfl (Nat.le_of_ble_eq_true rfl) (hro.sub (by omega) (by omega)) (Nat.le_of_ble_eq_true rfl) dL_law_1063 rfl (kc2 := kc + 1) (ks2 := ks + 6) rfl rfl ?_
  refine x_istore (ls2 := [(4, 0), jA 1, jA 166, jA 180, jI i, jI v1, jN]) (pc := 1066) hC dL_law_1066 (by decide) rfl rfl rfl ?_
  refine x_aloadA_n (pc := 1068) hC dL_law_1068 rfl rfl kk_166 (by decide) ?_
  refine x_aload_n (pc := 1069) hC dL_law_1069 rfl rfl (show (4 : Nat) ≠ 0 by decide) rfl ?_
  refine x_iload (pc := 1070) hC dL_law_1070 rfl ?_
  refine x_iconst (pc := 1072) hC dL_law_1072 ?_
  refine x_iadd (pc := 1073) hC dL_law_1073 ?_
  refine x_sa (pc := 1074) hC hSc hi1 ha1 dL_law_1074 ?_
  obtain ⟨v4, M6, e5, h⟩ := jbW_some h
  refine x_cV (pc := 1075) hC mv_L_183 (ok_X10_rank (Nat.le_of_ble_eq_true rfl) e5) rfl (Nat.le_of_ble_eq_true rfl) kk_166 rfl (by decide) (hro.sub (by omega) (by omega)) (Nat.le_of_ble_eq_true rfl) dL_law_1075 rfl ?_
  refine x_istore (ls2 := [(4, 0), jA 1, jA 166, jA 180, jI i, jI v1, jI v4]) (pc := 1078) hC dL_law_1078 (by decide) rfl rfl rfl ?_
  refine x_aloadA_n (pc := 1080) hC dL_law_1080 rfl rfl kk_166 (by decide) ?_
  obtain ⟨v7, e8, h⟩ := jbR_some h
  refine x_cV (pc := 1081) hC mv_L_143 (ok_X10_thrown (Nat.le_of_ble_eq_true rfl) e8) rfl (Nat.le_of_ble_eq_true rfl) kk_166 rfl (by decide) (hro.sub (by omega) (by omega)) (Nat.le_of_ble_eq_true rfl) dL_law_1081 rfl ?_
  refine x_iload (pc := 1084) hC dL_law_1084 rfl ?_
  obtain ⟨hk9, h⟩ := jck_some h
  refine x_icmp_eq (tgt := 1091) (pc := 1086) hC dL_law_1086 (by decide) (fun _ => ?_) (fun hc => absurd hk9 hc)
  refine x_iload (pc := 1091) hC dL_law_1091 rfl ?_
  refine x_if_ne (tgt := 1108) (pc := 1093) hC dL_law_1093 (by decide) (fun hc => ?_) (fun hc => ?_)
  · replace h := jit_neg hc h
    refine x_goto (tgt := 2756) (pc := 1108) hC dL_law_1108 (by decide) ?_
    refine x_kill 5 (ls2 := [(4, 0), jA 1, jA 166, jA 180, jI i, jN, jI v4]) rfl ?_
    refine x_kill 6 (ls2 := [(4, 0), jA 1, jA 166, jA 180, jI i, jN, jN]) rfl ?_
    refine x_widen (kc2 := kc + 4) (ks2 := ks + 24) (by omega) (by omega) ?_
    cases h
    exact kk
  · replace h := jit_pos hc h
    refine x_aloadA_n (pc := 1096) hC dL_law_1096 rfl rfl kk_180 (by decide) ?_
    refine x_iconst (pc := 1097) hC dL_law_1097 ?_
    refine x_lald (pc := 1098) hC kk_180 (by decide) (by decide +kernel) dL_law_1098 ?_
    refine x_iload (pc := 1099) hC dL_law_1099 rfl ?_
    refine x_i2l (pc := 1101) hC dL_law_1101 ?_
    refine x_lcmp (pc := 1102) hC dL_law_1102 ?_
    obtain ⟨hk10, h⟩ := jck_some h
    refine x_if_eq (tgt := 1108) (pc := 1103) hC dL_law_1103 (by decide) (fun _ => ?_) (fun hc => absurd hk10 hc)
    refine x_goto (tgt := 2756) (pc := 1108) hC dL_law_1108 (by decide) ?_
    refine x_kill 5 (ls2 := [(4, 0), jA 1, jA 166, jA 180, jI i, jN, jI v4]) rfl ?_
    refine x_kill 6 (ls2 := [(4, 0), jA 1, jA 166, jA 180, jI i, jN, jN]) rfl ?_
    refine x_widen (kc2 := kc + 4) (ks2 := ks + 24) (by omega) (by omega) ?_
    cases h
    exact kk
set_option maxHeartbeats 4000000 in
theorem st_14 {C : jC} {X : jX} (hC : jOk C X RL cL_law 7 180 60) (hSc : jSc C X) (hNs : jNs C) {kc ks : Nat} (hro : jRo C (kc + 4) (ks + 24)) {i : Int} {a1 : Int} (hi1 : 0 ≤ jw (i + 1) ∧ jw (i + 1) < ((jXs X).2.1 : Nat)) (ha1 : jsx X (jw (i + 1)) = a1) {M Mz : jM} (h : s_14 a1 M = some Mz) (kk : jG C X 180 7 (kc + 4) (ks + 24) 2756 [(4, 0), jA 1, jA 166, jA 180, jI i, jN, jN] [] Mz) : jG C X 180 7 kc ks 1111 [(4, 0), jA 1, jA 166, jA 180, jI i, jN, jN] [] M := by
  unfold s_14 at h
  refine x_aloadA_n (pc := 1111) hC dL_law_1111 rfl rfl kk_1 (by decide) ?_
  refine x_aload_n (pc := 1112) hC dL_law_1112 rfl rfl (show (4 : Nat) ≠ 0 by decide) rfl ?_
  refine x_iload (pc := 1113) hC dL_law_1113 rfl ?_
  refine x_iconst (pc := 1115) hC dL_law_1115 ?_
  refine x_iadd (pc := 1116) hC dL_law_1116 ?_
  refine x_sa (pc := 1117) hC hSc hi1 ha1 dL_law_1117 ?_
  obtain ⟨v1, M3, e2, h⟩ := jbW_some h
  refine x_cV (pc := 1118) hC mv_L_184 (ok_X9_ranked (Nat.le_of_ble_eq_true rfl) e2) rfl (Nat.le_of_ble_eq_true rfl) kk_1 rfl (by decide) (hro.sub (by omega) (by omega)) (Nat.le_of_ble_eq_true rfl) dL_law_1118 rfl ?_
  refine x_aloadA_n (pc := 1121) hC dL_law_1121 rfl rfl kk_166 (by decide) ?_
  refine x_aload_n (pc := 1122) hC dL_law_1122 rfl rfl (show (4 : Nat) ≠ 0 by decide) rfl ?_
  refine x_iload (pc := 1123) hC dL_law_1123 rfl ?_
  refine x_iconst (pc := 1125) hC dL_law_1125 ?_
  refine x_iadd (pc := 1126) hC dL_law_1126 ?_
  refine x_sa (pc := 1127) hC hSc hi1 ha1 dL_law_1127 ?_
  obtain ⟨v4, M6, e5, h⟩ := jbW_some h
  refine x_cV (pc := 1128) hC mv_L_187 (ok_X10_ranked (Nat.le_of_ble_eq_true rfl) e5) rfl (Nat.le_of_ble_eq_true rfl) kk_166 rfl (by decide) (hro.sub (by omega) (by omega)) (Nat.le_of_ble_eq_true rfl) dL_law_1128 rfl ?_
  obtain ⟨hk7, h⟩ := jck_some h
  refine x_icmp_eq (tgt := 2756) (pc := 1131) hC dL_law_1131 (by decide) (fun _ => ?_) (fun hc => absurd hk7 hc)
  refine x_widen (kc2 := kc + 4) (ks2 := ks + 24) (by omega) (by omega) ?_
  cases h
  exact kk
set_option maxHeartbeats 4000000 in
theorem st_15 {C : jC} {X : jX} (hC : jOk C X RL cL_law 7 180 60) (hSc : jSc C X) (hNs : jNs C) {kc ks : Nat} (hro : jRo C (kc + 4) (ks + 24)) {i : Int} {a1 : Int} {a2 : Int} {a3 : Int} {a4 : Int} (hi1 : 0 ≤ jw (i + 1) ∧ jw (i + 1) < ((jXs X).2.1 : Nat)) (ha1 : jsx X (jw (i + 1)) = a1) (hi2 : 0 ≤ jw (i + 2) ∧ jw (i + 2) < ((jXs X).2.1 : Nat)) (ha2 : jsx X (jw (i + 2)) = a2) (hi3 : 0 ≤ jw (i + 3) ∧ jw (i + 3) < ((jXs X).2.1 : Nat)) (ha3 : jsx X (jw (i + 3)) = a3) (hi4 : 0 ≤ jw (i + 4) ∧ jw (i + 4) < ((jXs X).2.1 : Nat)) (ha4 : jsx X (jw (i + 4)) = a4) {M Mz : jM} (h : s_15 a1 a2 a3 a4 M = some Mz) (kk : jG C X 180 7 (kc + 4) (ks + 24) 2756 [(4, 0), jA 1, jA 166, jA 180, jI i, jN, jN] [] Mz) : jG C X 180 7 kc ks 1136 [(4, 0), jA 1, jA 166, jA 180, jI i, jN, jN] [] M := by
  unfold s_15 at h
  refine x_aloadA_n (pc := 1136) hC dL_law_1136 rfl rfl kk_1 (by decide) ?_
  refine x_aload_n (pc := 1137) hC dL_law_1137 rfl rfl (show (4 : Nat) ≠ 0 by decide) rfl ?_
  refine x_iload (pc := 1138) hC dL_law_1138 rfl ?_
  refine x_iconst (pc := 1140) hC dL_law_1140 ?_
  refine x_iadd (pc := 1141) hC dL_law_1141 ?_
  refine x_sa (pc := 1142) hC hSc hi1 ha1 dL_law_1142 ?_
  refine x_aload_n (pc := 1143) hC dL_law_1143 rfl rfl (show (4 : Nat) ≠ 0 by decide) rfl ?_
  refine x_iload (pc := 1144) hC dL_law_1144 rfl ?_
  refine x_iconst (pc := 1146) hC dL_law_1146 ?_
  refine x_iadd (pc := 1147) hC dL_law_1147 ?_
  refine x_sa (pc := 1148) hC hSc hi2 ha2 dL_law_1148 ?_
  refine x_aload_n (pc := 1149) hC dL_law_1149 rfl rfl (show (4 : Nat) ≠ 0 by decide) rfl ?_
  refine x_iload (pc := 1150) hC dL_law_1150 rfl ?_
  refine x_iconst (pc := 1152) hC dL_law_1152 ?_
  refine x_iadd (pc := 1153) hC dL_law_1153 ?_
  refine x_sa (pc := 1154) hC hSc hi3 ha3 dL_law_1154 ?_
  refine x_aload_n (pc := 1155) hC dL_law_1155 rfl rfl (show (4 : Nat) ≠ 0 by decide) rfl ?_
  refine x_iload (pc := 1156) hC dL_law_1156 rfl ?_
  refine x_iconst (pc := 1158) hC dL_law_1158 ?_
  refine x_iadd (pc := 1159) hC dL_law_1159 ?_
  refine x_sa (pc := 1160) hC hSc hi4 ha4 dL_law_1160 ?_
  refine x_aloadA_n (pc := 1161) hC dL_law_1161 rfl rfl kk_180 (by decide) ?_
  obtain ⟨v1, M3, e2, h⟩ := jbW_some h
  refine x_cSW (pc := 1162) hC hNs mw_L_188 (ok_L_tell (Nat.le_of_ble_eq_true rfl) e2) rfl (Nat.le_of_ble_eq_true rfl) (hro.sub (by omega) (by omega)) (Nat.le_of_ble_eq_true rfl) dL_law_1162 rfl (kc2 := kc + 4) (ks2 := ks + 24) rfl rfl ?_
  refine x_istore (ls2 := [(4, 0), jA 1, jA 166, jA 180, jI i, jI v1, jN]) (pc := 1165) hC dL_law_1165 (by decide) rfl rfl rfl ?_
  refine x_aloadA_n (pc := 1167) hC dL_law_1167 rfl rfl kk_166 (by decide) ?_
  refine x_aload_n (pc := 1168) hC dL_law_1168 rfl rfl (show (4 : Nat) ≠ 0 by decide) rfl ?_
  refine x_iload (pc := 1169) hC dL_law_1169 rfl ?_
  refine x_iconst (pc := 1171) hC dL_law_1171 ?_
  refine x_iadd (pc := 1172) hC dL_law_1172 ?_
  refine x_sa (pc := 1173) hC hSc hi1 ha1 dL_law_1173 ?_
  refine x_aload_n (pc := 1174) hC dL_law_1174 rfl rfl (show (4 : Nat) ≠ 0 by decide) rfl ?_
  refine x_iload (pc := 1175) hC dL_law_1175 rfl ?_
  refine x_iconst (pc := 1177) hC dL_law_1177 ?_
  refine x_iadd (pc := 1178) hC dL_law_1178 ?_
  refine x_sa (pc := 1179) hC hSc hi2 ha2 dL_law_1179 ?_
  refine x_aload_n (pc := 1180) hC dL_law_1180 rfl rfl (show (4 : Nat) ≠ 0 by decide) rfl ?_
  refine x_iload (pc := 1181) hC dL_law_1181 rfl ?_
  refine x_iconst (pc := 1183) hC dL_law_1183 ?_
  refine x_iadd (pc := 1184) hC dL_law_1184 ?_
  refine x_sa (pc := 1185) hC hSc hi3 ha3 dL_law_1185 ?_
  refine x_aload_n (pc := 1186) hC dL_law_1186 rfl rfl (show (4 : Nat) ≠ 0 by decide) rfl ?_
  refine x_iload (pc := 1187) hC dL_law_1187 rfl ?_
  refine x_iconst (pc := 1189) hC dL_law_1189 ?_
  refine x_iadd (pc := 1190) hC dL_law_1190 ?_
  refine x_sa (pc := 1191) hC hSc hi4 ha4 dL_law_1191 ?_
  obtain ⟨v4, M6, e5, h⟩ := jbW_some h
  refine x_cV (pc := 1192) hC mv_L_191 (ok_X10_tell (Nat.le_of_ble_eq_true rfl) e5) rfl (Nat.le_of_ble_eq_true rfl) kk_166 rfl (by decide) (hro.sub (by omega) (by omega)) (Nat.le_of_ble_eq_true rfl) dL_law_1192 rfl ?_
  refine x_istore (ls2 := [(4, 0), jA 1, jA 166, jA 180, jI i, jI v1, jI v4]) (pc := 1195) hC dL_law_1195 (by decide) rfl rfl rfl ?_
  refine x_aloadA_n (pc := 1197) hC dL_law_1197 rfl rfl kk_166 (by decide) ?_
  obtain ⟨v7, e8, h⟩ := jbR_some h
  refine x_cV (pc := 1198) hC mv_L_143 (ok_X10_thrown (Nat.le_of_ble_eq_true rfl) e8) rfl (Nat.le_of_ble_eq_true rfl) kk_166 rfl (by decide) (hro.sub (by omega) (by omega)) (Nat.le_of_ble_eq_true rfl) dL_law_1198 rfl ?_
  refine x_iload (pc := 1201) hC dL_law_1201 rfl ?_
  obtain ⟨hk9, h⟩ := jck_some h
  refine x_icmp_eq (tgt := 1208) (pc := 1203) hC dL_law_1203 (by decide) (fun _ => ?_) (fun hc => absurd hk9 hc)
  refine x_iload (pc := 1208) hC dL_law_1208 rfl ?_
  refine x_if_ne (tgt := 1225) (pc := 1210) hC dL_law_1210 (by decide) (fun hc => ?_) (fun hc => ?_)
  · replace h := jit_neg hc h
    refine x_goto (tgt := 2756) (pc := 1225) hC dL_law_1225 (by decide) ?_
    refine x_kill 5 (ls2 := [(4, 0), jA 1, jA 166, jA 180, jI i, jN, jI v4]) rfl ?_
    refine x_kill 6 (ls2 := [(4, 0), jA 1, jA 166, jA 180, jI i, jN, jN]) rfl ?_
    refine x_widen (kc2 := kc + 4) (ks2 := ks + 24) (by omega) (by omega) ?_
    cases h
    exact kk
  · replace h := jit_pos hc h
    refine x_aloadA_n (pc := 1213) hC dL_law_1213 rfl rfl kk_180 (by decide) ?_
    refine x_iconst (pc := 1214) hC dL_law_1214 ?_
    refine x_lald (pc := 1215) hC kk_180 (by decide) (by decide +kernel) dL_law_1215 ?_
    refine x_iload (pc := 1216) hC dL_law_1216 rfl ?_
    refine x_i2l (pc := 1218) hC dL_law_1218 ?_
    refine x_lcmp (pc := 1219) hC dL_law_1219 ?_
    obtain ⟨hk10, h⟩ := jck_some h
    refine x_if_eq (tgt := 1225) (pc := 1220) hC dL_law_1220 (by decide) (fun _ => ?_) (fun hc => absurd hk10 hc)
    refine x_goto (tgt := 2756) (pc := 1225) hC dL_law_1225 (by decide) ?_
    refine x_kill 5 (ls2 := [(4, 0), jA 1, jA 166, jA 180, jI i, jN, jI v4]) rfl ?_
    refine x_kill 6 (ls2 := [(4, 0), jA 1, jA 166, jA 180, jI i, jN, jN]) rfl ?_
    refine x_widen (kc2 := kc + 4) (ks2 := ks + 24) (by omega) (by omega) ?_
    cases h
    exact kk
set_option maxHeartbeats 4000000 in
theorem st_16 {C : jC} {X : jX} (hC : jOk C X RL cL_law 7 180 60) (hSc : jSc C X) (hNs : jNs C) {kc ks : Nat} (hro : jRo C (kc + 4) (ks + 24)) {i : Int} {a1 : Int} {a2 : Int} {a3 : Int} {a4 : Int} (hi1 : 0 ≤ jw (i + 1) ∧ jw (i + 1) < ((jXs X).2.1 : Nat)) (ha1 : jsx X (jw (i + 1)) = a1) (hi2 : 0 ≤ jw (i + 2) ∧ jw (i + 2) < ((jXs X).2.1 : Nat)) (ha2 : jsx X (jw (i + 2)) = a2) (hi3 : 0 ≤ jw (i + 3) ∧ jw (i + 3) < ((jXs X).2.1 : Nat)) (ha3 : jsx X (jw (i + 3)) = a3) (hi4 : 0 ≤ jw (i + 4) ∧ jw (i + 4) < ((jXs X).2.1 : Nat)) (ha4 : jsx X (jw (i + 4)) = a4) {M Mz : jM} (h : s_16 a1 a2 a3 a4 M = some Mz) (kk : jG C X 180 7 (kc + 4) (ks + 24) 2756 [(4, 0), jA 1, jA 166, jA 180, jI i, jN, jN] [] Mz) : jG C X 180 7 kc ks 1228 [(4, 0), jA 1, jA 166, jA 180, jI i, jN, jN] [] M := by
  unfold s_16 at h
  refine x_aloadA_n (pc := 1228) hC dL_law_1228 rfl rfl kk_1 (by decide) ?_
  refine x_aload_n (pc := 1229) hC dL_law_1229 rfl rfl (show (4 : Nat) ≠ 0 by decide) rfl ?_
  refine x_iload (pc := 1230) hC dL_law_1230 rfl ?_
  refine x_iconst (pc := 1232) hC dL_law_1232 ?_
  refine x_iadd (pc := 1233) hC dL_law_1233 ?_
  refine x_sa (pc := 1234) hC hSc hi1 ha1 dL_law_1234 ?_
  refine x_aload_n (pc := 1235) hC dL_law_1235 rfl rfl (show (4 : Nat) ≠ 0 by decide) rfl ?_
  refine x_iload (pc := 1236) hC dL_law_1236 rfl ?_
  refine x_iconst (pc := 1238) hC dL_law_1238 ?_
  refine x_iadd (pc := 1239) hC dL_law_1239 ?_
  refine x_sa (pc := 1240) hC hSc hi2 ha2 dL_law_1240 ?_
  refine x_aload_n (pc := 1241) hC dL_law_1241 rfl rfl (show (4 : Nat) ≠ 0 by decide) rfl ?_
  refine x_iload (pc := 1242) hC dL_law_1242 rfl ?_
  refine x_iconst (pc := 1244) hC dL_law_1244 ?_
  refine x_iadd (pc := 1245) hC dL_law_1245 ?_
  refine x_sa (pc := 1246) hC hSc hi3 ha3 dL_law_1246 ?_
  refine x_aload_n (pc := 1247) hC dL_law_1247 rfl rfl (show (4 : Nat) ≠ 0 by decide) rfl ?_
  refine x_iload (pc := 1248) hC dL_law_1248 rfl ?_
  refine x_iconst (pc := 1250) hC dL_law_1250 ?_
  refine x_iadd (pc := 1251) hC dL_law_1251 ?_
  refine x_sa (pc := 1252) hC hSc hi4 ha4 dL_law_1252 ?_
  refine x_aloadA_n (pc := 1253) hC dL_law_1253 rfl rfl kk_180 (by decide) ?_
  obtain ⟨v1, M3, e2, h⟩ := jbW_some h
  refine x_cSW (pc := 1254) hC hNs mw_L_192 (ok_L_show (Nat.le_of_ble_eq_true rfl) e2) rfl (Nat.le_of_ble_eq_true rfl) (hro.sub (by omega) (by omega)) (Nat.le_of_ble_eq_true rfl) dL_law_1254 rfl (kc2 := kc + 4) (ks2 := ks + 24) rfl rfl ?_
  refine x_istore (ls2 := [(4, 0), jA 1, jA 166, jA 180, jI i, jI v1, jN]) (pc := 1257) hC dL_law_1257 (by decide) rfl rfl rfl ?_
  refine x_aloadA_n (pc := 1259) hC dL_law_1259 rfl rfl kk_166 (by decide) ?_
  refine x_aload_n (pc := 1260) hC dL_law_1260 rfl rfl (show (4 : Nat) ≠ 0 by decide) rfl ?_
  refine x_iload (pc := 1261) hC dL_law_1261 rfl ?_
  refine x_iconst (pc := 1263) hC dL_law_1263 ?_
  refine x_iadd (pc := 1264) hC dL_law_1264 ?_
  refine x_sa (pc := 1265) hC hSc hi1 ha1 dL_law_1265 ?_
  refine x_aload_n (pc := 1266) hC dL_law_1266 rfl rfl (show (4 : Nat) ≠ 0 by decide) rfl ?_
  refine x_iload (pc := 1267) hC dL_law_1267 rfl ?_
  refine x_iconst (pc := 1269) hC dL_law_1269 ?_
  refine x_iadd (pc := 1270) hC dL_law_1270 ?_
  refine x_sa (pc := 1271) hC hSc hi2 ha2 dL_law_1271 ?_
  refine x_aload_n (pc := 1272) hC dL_law_1272 rfl rfl (show (4 : Nat) ≠ 0 by decide) rfl ?_
  refine x_iload (pc := 1273) hC dL_law_1273 rfl ?_
  refine x_iconst (pc := 1275) hC dL_law_1275 ?_
  refine x_iadd (pc := 1276) hC dL_law_1276 ?_
  refine x_sa (pc := 1277) hC hSc hi3 ha3 dL_law_1277 ?_
  refine x_aload_n (pc := 1278) hC dL_law_1278 rfl rfl (show (4 : Nat) ≠ 0 by decide) rfl ?_
  refine x_iload (pc := 1279) hC dL_law_1279 rfl ?_
  refine x_iconst (pc := 1281) hC dL_law_1281 ?_
  refine x_iadd (pc := 1282) hC dL_law_1282 ?_
  refine x_sa (pc := 1283) hC hSc hi4 ha4 dL_law_1283 ?_
  obtain ⟨v4, M6, e5, h⟩ := jbW_some h
  refine x_cV (pc := 1284) hC mv_L_194 (ok_X10_show (Nat.le_of_ble_eq_true rfl) e5) rfl (Nat.le_of_ble_eq_true rfl) kk_166 rfl (by decide) (hro.sub (by omega) (by omega)) (Nat.le_of_ble_eq_true rfl) dL_law_1284 rfl ?_
  refine x_istore (ls2 := [(4, 0), jA 1, jA 166, jA 180, jI i, jI v1, jI v4]) (pc := 1287) hC dL_law_1287 (by decide) rfl rfl rfl ?_
  refine x_aloadA_n (pc := 1289) hC dL_law_1289 rfl rfl kk_166 (by decide) ?_
  obtain ⟨v7, e8, h⟩ := jbR_some h
  refine x_cV (pc := 1290) hC mv_L_143 (ok_X10_thrown (Nat.le_of_ble_eq_true rfl) e8) rfl (Nat.le_of_ble_eq_true rfl) kk_166 rfl (by decide) (hro.sub (by omega) (by omega)) (Nat.le_of_ble_eq_true rfl) dL_law_1290 rfl ?_
  refine x_iload (pc := 1293) hC dL_law_1293 rfl ?_
  obtain ⟨hk9, h⟩ := jck_some h
  refine x_icmp_eq (tgt := 1300) (pc := 1295) hC dL_law_1295 (by decide) (fun _ => ?_) (fun hc => absurd hk9 hc)
  refine x_iload (pc := 1300) hC dL_law_1300 rfl ?_
  refine x_if_ne (tgt := 1317) (pc := 1302) hC dL_law_1302 (by decide) (fun hc => ?_) (fun hc => ?_)
  · replace h := jit_neg hc h
    refine x_goto (tgt := 2756) (pc := 1317) hC dL_law_1317 (by decide) ?_
    refine x_kill 5 (ls2 := [(4, 0), jA 1, jA 166, jA 180, jI i, jN, jI v4]) rfl ?_
    refine x_kill 6 (ls2 := [(4, 0), jA 1, jA 166, jA 180, jI i, jN, jN]) rfl ?_
    refine x_widen (kc2 := kc + 4) (ks2 := ks + 24) (by omega) (by omega) ?_
    cases h
    exact kk
  · replace h := jit_pos hc h
    refine x_aloadA_n (pc := 1305) hC dL_law_1305 rfl rfl kk_180 (by decide) ?_
    refine x_iconst (pc := 1306) hC dL_law_1306 ?_
    refine x_lald (pc := 1307) hC kk_180 (by decide) (by decide +kernel) dL_law_1307 ?_
    refine x_iload (pc := 1308) hC dL_law_1308 rfl ?_
    refine x_i2l (pc := 1310) hC dL_law_1310 ?_
    refine x_lcmp (pc := 1311) hC dL_law_1311 ?_
    obtain ⟨hk10, h⟩ := jck_some h
    refine x_if_eq (tgt := 1317) (pc := 1312) hC dL_law_1312 (by decide) (fun _ => ?_) (fun hc => absurd hk10 hc)
    refine x_goto (tgt := 2756) (pc := 1317) hC dL_law_1317 (by decide) ?_
    refine x_kill 5 (ls2 := [(4, 0), jA 1, jA 166, jA 180, jI i, jN, jI v4]) rfl ?_
    refine x_kill 6 (ls2 := [(4, 0), jA 1, jA 166, jA 180, jI i, jN, jN]) rfl ?_
    refine x_widen (kc2 := kc + 4) (ks2 := ks + 24) (by omega) (by omega) ?_
    cases h
    exact kk
set_option maxHeartbeats 4000000 in
theorem st_17 {C : jC} {X : jX} (hC : jOk C X RL cL_law 7 180 60) (hSc : jSc C X) (hNs : jNs C) {kc ks : Nat} (hro : jRo C (kc + 4) (ks + 24)) {i : Int} {a1 : Int} {a2 : Int} {a3 : Int} {a4 : Int} (hi1 : 0 ≤ jw (i + 1) ∧ jw (i + 1) < ((jXs X).2.1 : Nat)) (ha1 : jsx X (jw (i + 1)) = a1) (hi2 : 0 ≤ jw (i + 2) ∧ jw (i + 2) < ((jXs X).2.1 : Nat)) (ha2 : jsx X (jw (i + 2)) = a2) (hi3 : 0 ≤ jw (i + 3) ∧ jw (i + 3) < ((jXs X).2.1 : Nat)) (ha3 : jsx X (jw (i + 3)) = a3) (hi4 : 0 ≤ jw (i + 4) ∧ jw (i + 4) < ((jXs X).2.1 : Nat)) (ha4 : jsx X (jw (i + 4)) = a4) {M Mz : jM} (h : s_17 a1 a2 a3 a4 M = some Mz) (kk : jG C X 180 7 (kc + 4) (ks + 24) 2756 [(4, 0), jA 1, jA 166, jA 180, jI i, jN, jN] [] Mz) : jG C X 180 7 kc ks 1320 [(4, 0), jA 1, jA 166, jA 180, jI i, jN, jN] [] M := by
  unfold s_17 at h
  refine x_aloadA_n (pc := 1320) hC dL_law_1320 rfl rfl kk_1 (by decide) ?_
  refine x_aload_n (pc := 1321) hC dL_law_1321 rfl rfl (show (4 : Nat) ≠ 0 by decide) rfl ?_
  refine x_iload (pc := 1322) hC dL_law_1322 rfl ?_
  refine x_iconst (pc := 1324) hC dL_law_1324 ?_
  refine x_iadd (pc := 1325) hC dL_law_1325 ?_
  refine x_sa (pc := 1326) hC hSc hi1 ha1 dL_law_1326 ?_
  refine x_aload_n (pc := 1327) hC dL_law_1327 rfl rfl (show (4 : Nat) ≠ 0 by decide) rfl ?_
  refine x_iload (pc := 1328) hC dL_law_1328 rfl ?_
  refine x_iconst (pc := 1330) hC dL_law_1330 ?_
  refine x_iadd (pc := 1331) hC dL_law_1331 ?_
  refine x_sa (pc := 1332) hC hSc hi2 ha2 dL_law_1332 ?_
  refine x_aload_n (pc := 1333) hC dL_law_1333 rfl rfl (show (4 : Nat) ≠ 0 by decide) rfl ?_
  refine x_iload (pc := 1334) hC dL_law_1334 rfl ?_
  refine x_iconst (pc := 1336) hC dL_law_1336 ?_
  refine x_iadd (pc := 1337) hC dL_law_1337 ?_
  refine x_sa (pc := 1338) hC hSc hi3 ha3 dL_law_1338 ?_
  refine x_aload_n (pc := 1339) hC dL_law_1339 rfl rfl (show (4 : Nat) ≠ 0 by decide) rfl ?_
  refine x_iload (pc := 1340) hC dL_law_1340 rfl ?_
  refine x_iconst (pc := 1342) hC dL_law_1342 ?_
  refine x_iadd (pc := 1343) hC dL_law_1343 ?_
  refine x_sa (pc := 1344) hC hSc hi4 ha4 dL_law_1344 ?_
  obtain ⟨b1, eb1, h⟩ := jlet_some h
  have keyb1 : jG C X 180 7 kc ks 1353 [(4, 0), jA 1, jA 166, jA 180, jI i, jN, jN] [jI b1, jI a3, jI a2, jI a1, jA 1] M := by
    refine x_aloadA_n (pc := 1353) hC dL_law_1353 rfl rfl kk_180 (by decide) ?_
    obtain ⟨v2, M4, e3, h⟩ := jbW_some h
    refine x_cSW (pc := 1354) hC hNs mw_L_195 (ok_L_call (Nat.le_of_ble_eq_true rfl) e3) rfl (Nat.le_of_ble_eq_true rfl) (hro.sub (by omega) (by omega)) (Nat.le_of_ble_eq_true rfl) dL_law_1354 rfl (kc2 := kc + 3) (ks2 := ks + 18) rfl rfl ?_
    refine x_istore (ls2 := [(4, 0), jA 1, jA 166, jA 180, jI i, jI v2, jN]) (pc := 1357) hC dL_law_1357 (by decide) rfl rfl rfl ?_
    refine x_aloadA_n (pc := 1359) hC dL_law_1359 rfl rfl kk_166 (by decide) ?_
    refine x_aload_n (pc := 1360) hC dL_law_1360 rfl rfl (show (4 : Nat) ≠ 0 by decide) rfl ?_
    refine x_iload (pc := 1361) hC dL_law_1361 rfl ?_
    refine x_iconst (pc := 1363) hC dL_law_1363 ?_
    refine x_iadd (pc := 1364) hC dL_law_1364 ?_
    refine x_sa (pc := 1365) hC hSc hi1 ha1 dL_law_1365 ?_
    refine x_aload_n (pc := 1366) hC dL_law_1366 rfl rfl (show (4 : Nat) ≠ 0 by decide) rfl ?_
    refine x_iload (pc := 1367) hC dL_law_1367 rfl ?_
    refine x_iconst (pc := 1369) hC dL_law_1369 ?_
    refine x_iadd (pc := 1370) hC dL_law_1370 ?_
    refine x_sa (pc := 1371) hC hSc hi2 ha2 dL_law_1371 ?_
    refine x_aload_n (pc := 1372) hC dL_law_1372 rfl rfl (show (4 : Nat) ≠ 0 by decide) rfl ?_
    refine x_iload (pc := 1373) hC dL_law_1373 rfl ?_
    refine x_iconst (pc := 1375) hC dL_law_1375 ?_
    refine x_iadd (pc := 1376) hC dL_law_1376 ?_
    refine x_sa (pc := 1377) hC hSc hi3 ha3 dL_law_1377 ?_
    refine x_aload_n (pc := 1378) hC dL_law_1378 rfl rfl (show (4 : Nat) ≠ 0 by decide) rfl ?_
    refine x_iload (pc := 1379) hC dL_law_1379 rfl ?_
    refine x_iconst (pc := 1381) hC dL_law_1381 ?_
    refine x_iadd (pc := 1382) hC dL_law_1382 ?_
    refine x_sa (pc := 1383) hC hSc hi4 ha4 dL_law_1383 ?_
    obtain ⟨b5, eb5, h⟩ := jlet_some h
    have keyb5 : jG C X 180 7 (kc + 3) (ks + 18) 1392 [(4, 0), jA 1, jA 166, jA 180, jI i, jI v2, jN] [jI b5, jI a3, jI a2, jI a1, jA 166] M4 := by
      obtain ⟨v6, M8, e7, h⟩ := jbW_some h
      refine x_cV (pc := 1392) hC mv_L_198 (ok_X10_call (Nat.le_of_ble_eq_true rfl) e7) rfl (Nat.le_of_ble_eq_true rfl) kk_166 rfl (by decide) (hro.sub (by omega) (by omega)) (Nat.le_of_ble_eq_true rfl) dL_law_1392 rfl ?_
      refine x_istore (ls2 := [(4, 0), jA 1, jA 166, jA 180, jI i, jI v2, jI v6]) (pc := 1395) hC dL_law_1395 (by decide) rfl rfl rfl ?_
      refine x_aloadA_n (pc := 1397) hC dL_law_1397 rfl rfl kk_166 (by decide) ?_
      obtain ⟨v9, e10, h⟩ := jbR_some h
      refine x_cV (pc := 1398) hC mv_L_143 (ok_X10_thrown (Nat.le_of_ble_eq_true rfl) e10) rfl (Nat.le_of_ble_eq_true rfl) kk_166 rfl (by decide) (hro.sub (by omega) (by omega)) (Nat.le_of_ble_eq_true rfl) dL_law_1398 rfl ?_
      refine x_iload (pc := 1401) hC dL_law_1401 rfl ?_
      obtain ⟨hk11, h⟩ := jck_some h
      refine x_icmp_eq (tgt := 1408) (pc := 1403) hC dL_law_1403 (by decide) (fun _ => ?_) (fun hc => absurd hk11 hc)
      refine x_iload (pc := 1408) hC dL_law_1408 rfl ?_
      refine x_if_ne (tgt := 1432) (pc := 1410) hC dL_law_1410 (by decide) (fun hc => ?_) (fun hc => ?_)
      · replace h := jit_neg hc h
        refine x_goto (tgt := 2756) (pc := 1432) hC dL_law_1432 (by decide) ?_
        refine x_kill 5 (ls2 := [(4, 0), jA 1, jA 166, jA 180, jI i, jN, jI v6]) rfl ?_
        refine x_kill 6 (ls2 := [(4, 0), jA 1, jA 166, jA 180, jI i, jN, jN]) rfl ?_
        refine x_widen (kc2 := kc + 4) (ks2 := ks + 24) (by omega) (by omega) ?_
        cases h
        exact kk
      · replace h := jit_pos hc h
        refine x_aloadA_n (pc := 1413) hC dL_law_1413 rfl rfl kk_180 (by decide) ?_
        refine x_iconst (pc := 1414) hC dL_law_1414 ?_
        refine x_lald (pc := 1415) hC kk_180 (by decide) (by decide +kernel) dL_law_1415 ?_
        refine x_iload (pc := 1416) hC dL_law_1416 rfl ?_
        obtain ⟨b12, eb12, h⟩ := jlet_some h
        have keyb12 : jG C X 180 7 (kc + 3) (ks + 18) 1426 [(4, 0), jA 1, jA 166, jA 180, jI i, jI v2, jI v6] [jJ b12, jJ (M8 180 (jw 0))] M8 := by
          refine x_lcmp (pc := 1426) hC dL_law_1426 ?_
          obtain ⟨hk13, h⟩ := jck_some h
          refine x_if_eq (tgt := 1432) (pc := 1427) hC dL_law_1427 (by decide) (fun _ => ?_) (fun hc => absurd hk13 hc)
          refine x_goto (tgt := 2756) (pc := 1432) hC dL_law_1432 (by decide) ?_
          refine x_kill 5 (ls2 := [(4, 0), jA 1, jA 166, jA 180, jI i, jN, jI v6]) rfl ?_
          refine x_kill 6 (ls2 := [(4, 0), jA 1, jA 166, jA 180, jI i, jN, jN]) rfl ?_
          refine x_widen (kc2 := kc + 4) (ks2 := ks + 24) (by omega) (by omega) ?_
          cases h
          exact kk
        refine x_if_eq (tgt := 1425) (pc := 1418) hC dL_law_1418 (by decide) (fun hv => ?_) (fun hv => ?_)
        · refine x_lconst (z := 0) (pc := 1425) hC dL_law_1425 rfl ?_
          rw [if_pos hv] at eb12
          rw [eb12] at keyb12
          exact keyb12
        · refine x_lconst (z := 1) (pc := 1421) hC dL_law_1421 rfl ?_
          refine x_goto (tgt := 1426) (pc := 1422) hC dL_law_1422 (by decide) ?_
          rw [if_neg hv] at eb12
          rw [eb12] at keyb12
          exact keyb12
    refine x_if_eq (tgt := 1391) (pc := 1384) hC dL_law_1384 (by decide) (fun hv => ?_) (fun hv => ?_)
    · refine x_iconst (pc := 1391) hC dL_law_1391 ?_
      rw [if_pos hv] at eb5
      rw [eb5] at keyb5
      exact keyb5
    · refine x_iconst (pc := 1387) hC dL_law_1387 ?_
      refine x_goto (tgt := 1392) (pc := 1388) hC dL_law_1388 (by decide) ?_
      rw [if_neg hv] at eb5
      rw [eb5] at keyb5
      exact keyb5
  refine x_if_eq (tgt := 1352) (pc := 1345) hC dL_law_1345 (by decide) (fun hv => ?_) (fun hv => ?_)
  · refine x_iconst (pc := 1352) hC dL_law_1352 ?_
    rw [if_pos hv] at eb1
    rw [eb1] at keyb1
    exact keyb1
  · refine x_iconst (pc := 1348) hC dL_law_1348 ?_
    refine x_goto (tgt := 1353) (pc := 1349) hC dL_law_1349 (by decide) ?_
    rw [if_neg hv] at eb1
    rw [eb1] at keyb1
    exact keyb1
set_option maxHeartbeats 4000000 in
theorem st_18 {C : jC} {X : jX} (hC : jOk C X RL cL_law 7 180 60) (hSc : jSc C X) (hNs : jNs C) {kc ks : Nat} (hro : jRo C (kc + 4) (ks + 24)) {i : Int} {a1 : Int} {a2 : Int} (hi1 : 0 ≤ jw (i + 1) ∧ jw (i + 1) < ((jXs X).2.1 : Nat)) (ha1 : jsx X (jw (i + 1)) = a1) (hi2 : 0 ≤ jw (i + 2) ∧ jw (i + 2) < ((jXs X).2.1 : Nat)) (ha2 : jsx X (jw (i + 2)) = a2) {M Mz : jM} (h : s_18 a1 a2 M = some Mz) (kk : jG C X 180 7 (kc + 4) (ks + 24) 2756 [(4, 0), jA 1, jA 166, jA 180, jI i, jN, jN] [] Mz) : jG C X 180 7 kc ks 1435 [(4, 0), jA 1, jA 166, jA 180, jI i, jN, jN] [] M := by
  unfold s_18 at h
  refine x_aloadA_n (pc := 1435) hC dL_law_1435 rfl rfl kk_1 (by decide) ?_
  refine x_aload_n (pc := 1436) hC dL_law_1436 rfl rfl (show (4 : Nat) ≠ 0 by decide) rfl ?_
  refine x_iload (pc := 1437) hC dL_law_1437 rfl ?_
  refine x_iconst (pc := 1439) hC dL_law_1439 ?_
  refine x_iadd (pc := 1440) hC dL_law_1440 ?_
  refine x_sa (pc := 1441) hC hSc hi1 ha1 dL_law_1441 ?_
  refine x_aload_n (pc := 1442) hC dL_law_1442 rfl rfl (show (4 : Nat) ≠ 0 by decide) rfl ?_
  refine x_iload (pc := 1443) hC dL_law_1443 rfl ?_
  refine x_iconst (pc := 1445) hC dL_law_1445 ?_
  refine x_iadd (pc := 1446) hC dL_law_1446 ?_
  refine x_sa (pc := 1447) hC hSc hi2 ha2 dL_law_1447 ?_
  refine x_aloadA_n (pc := 1448) hC dL_law_1448 rfl rfl kk_180 (by decide) ?_
  obtain ⟨v1, M3, e2, h⟩ := jbW_some h
  refine x_cSW (pc := 1449) hC hNs mw_L_199 (ok_L_base (Nat.le_of_ble_eq_true rfl) e2) rfl (Nat.le_of_ble_eq_true rfl) (hro.sub (by omega) (by omega)) (Nat.le_of_ble_eq_true rfl) dL_law_1449 rfl (kc2 := kc + 2) (ks2 := ks + 12) rfl rfl ?_
  refine x_istore (ls2 := [(4, 0), jA 1, jA 166, jA 180, jI i, jI v1, jN]) (pc := 1452) hC dL_law_1452 (by decide) rfl rfl rfl ?_
  refine x_aloadA_n (pc := 1454) hC dL_law_1454 rfl rfl kk_166 (by decide) ?_
  refine x_aload_n (pc := 1455) hC dL_law_1455 rfl rfl (show (4 : Nat) ≠ 0 by decide) rfl ?_
  refine x_iload (pc := 1456) hC dL_law_1456 rfl ?_
  refine x_iconst (pc := 1458) hC dL_law_1458 ?_
  refine x_iadd (pc := 1459) hC dL_law_1459 ?_
  refine x_sa (pc := 1460) hC hSc hi1 ha1 dL_law_1460 ?_
  refine x_aload_n (pc := 1461) hC dL_law_1461 rfl rfl (show (4 : Nat) ≠ 0 by decide) rfl ?_
  refine x_iload (pc := 1462) hC dL_law_1462 rfl ?_
  refine x_iconst (pc := 1464) hC dL_law_1464 ?_
  refine x_iadd (pc := 1465) hC dL_law_1465 ?_
  refine x_sa (pc := 1466) hC hSc hi2 ha2 dL_law_1466 ?_
  obtain ⟨v4, M6, e5, h⟩ := jbW_some h
  refine x_cV (pc := 1467) hC mv_L_201 (ok_X10_base (Nat.le_of_ble_eq_true rfl) e5) rfl (Nat.le_of_ble_eq_true rfl) kk_166 rfl (by decide) (hro.sub (by omega) (by omega)) (Nat.le_of_ble_eq_true rfl) dL_law_1467 rfl ?_
  refine x_istore (ls2 := [(4, 0), jA 1, jA 166, jA 180, jI i, jI v1, jI v4]) (pc := 1470) hC dL_law_1470 (by decide) rfl rfl rfl ?_
  refine x_aloadA_n (pc := 1472) hC dL_law_1472 rfl rfl kk_166 (by decide) ?_
  obtain ⟨v7, e8, h⟩ := jbR_some h
  refine x_cV (pc := 1473) hC mv_L_143 (ok_X10_thrown (Nat.le_of_ble_eq_true rfl) e8) rfl (Nat.le_of_ble_eq_true rfl) kk_166 rfl (by decide) (hro.sub (by omega) (by omega)) (Nat.le_of_ble_eq_true rfl) dL_law_1473 rfl ?_
  refine x_iload (pc := 1476) hC dL_law_1476 rfl ?_
  obtain ⟨hk9, h⟩ := jck_some h
  refine x_icmp_eq (tgt := 1483) (pc := 1478) hC dL_law_1478 (by decide) (fun _ => ?_) (fun hc => absurd hk9 hc)
  refine x_iload (pc := 1483) hC dL_law_1483 rfl ?_
  refine x_if_ne (tgt := 1500) (pc := 1485) hC dL_law_1485 (by decide) (fun hc => ?_) (fun hc => ?_)
  · replace h := jit_neg hc h
    refine x_goto (tgt := 2756) (pc := 1500) hC dL_law_1500 (by decide) ?_
    refine x_kill 5 (ls2 := [(4, 0), jA 1, jA 166, jA 180, jI i, jN, jI v4]) rfl ?_
    refine x_kill 6 (ls2 := [(4, 0), jA 1, jA 166, jA 180, jI i, jN, jN]) rfl ?_
    refine x_widen (kc2 := kc + 4) (ks2 := ks + 24) (by omega) (by omega) ?_
    cases h
    exact kk
  · replace h := jit_pos hc h
    refine x_aloadA_n (pc := 1488) hC dL_law_1488 rfl rfl kk_180 (by decide) ?_
    refine x_iconst (pc := 1489) hC dL_law_1489 ?_
    refine x_lald (pc := 1490) hC kk_180 (by decide) (by decide +kernel) dL_law_1490 ?_
    refine x_iload (pc := 1491) hC dL_law_1491 rfl ?_
    refine x_i2l (pc := 1493) hC dL_law_1493 ?_
    refine x_lcmp (pc := 1494) hC dL_law_1494 ?_
    obtain ⟨hk10, h⟩ := jck_some h
    refine x_if_eq (tgt := 1500) (pc := 1495) hC dL_law_1495 (by decide) (fun _ => ?_) (fun hc => absurd hk10 hc)
    refine x_goto (tgt := 2756) (pc := 1500) hC dL_law_1500 (by decide) ?_
    refine x_kill 5 (ls2 := [(4, 0), jA 1, jA 166, jA 180, jI i, jN, jI v4]) rfl ?_
    refine x_kill 6 (ls2 := [(4, 0), jA 1, jA 166, jA 180, jI i, jN, jN]) rfl ?_
    refine x_widen (kc2 := kc + 4) (ks2 := ks + 24) (by omega) (by omega) ?_
    cases h
    exact kk
set_option maxHeartbeats 4000000 in
theorem st_19 {C : jC} {X : jX} (hC : jOk C X RL cL_law 7 180 60) (hSc : jSc C X) (hNs : jNs C) {kc ks : Nat} (hro : jRo C (kc + 4) (ks + 24)) {i : Int} {a1 : Int} {a2 : Int} (hi1 : 0 ≤ jw (i + 1) ∧ jw (i + 1) < ((jXs X).2.1 : Nat)) (ha1 : jsx X (jw (i + 1)) = a1) (hi2 : 0 ≤ jw (i + 2) ∧ jw (i + 2) < ((jXs X).2.1 : Nat)) (ha2 : jsx X (jw (i + 2)) = a2) {M Mz : jM} (h : s_19 a1 a2 M = some Mz) (kk : jG C X 180 7 (kc + 4) (ks + 24) 2756 [(4, 0), jA 1, jA 166, jA 180, jI i, jN, jN] [] Mz) : jG C X 180 7 kc ks 1503 [(4, 0), jA 1, jA 166, jA 180, jI i, jN, jN] [] M := by
  unfold s_19 at h
  refine x_aloadA_n (pc := 1503) hC dL_law_1503 rfl rfl kk_1 (by decide) ?_
  refine x_aload_n (pc := 1504) hC dL_law_1504 rfl rfl (show (4 : Nat) ≠ 0 by decide) rfl ?_
  refine x_iload (pc := 1505) hC dL_law_1505 rfl ?_
  refine x_iconst (pc := 1507) hC dL_law_1507 ?_
  refine x_iadd (pc := 1508) hC dL_law_1508 ?_
  refine x_sa (pc := 1509) hC hSc hi1 ha1 dL_law_1509 ?_
  refine x_aload_n (pc := 1510) hC dL_law_1510 rfl rfl (show (4 : Nat) ≠ 0 by decide) rfl ?_
  refine x_iload (pc := 1511) hC dL_law_1511 rfl ?_
  refine x_iconst (pc := 1513) hC dL_law_1513 ?_
  refine x_iadd (pc := 1514) hC dL_law_1514 ?_
  refine x_sa (pc := 1515) hC hSc hi2 ha2 dL_law_1515 ?_
  refine x_aloadA_n (pc := 1516) hC dL_law_1516 rfl rfl kk_180 (by decide) ?_
  obtain ⟨v1, M3, e2, h⟩ := jbW_some h
  refine x_cSW (pc := 1517) hC hNs mw_L_202 (ok_L_set (Nat.le_of_ble_eq_true rfl) e2) rfl (Nat.le_of_ble_eq_true rfl) (hro.sub (by omega) (by omega)) (Nat.le_of_ble_eq_true rfl) dL_law_1517 rfl (kc2 := kc + 1) (ks2 := ks + 6) rfl rfl ?_
  refine x_istore (ls2 := [(4, 0), jA 1, jA 166, jA 180, jI i, jI v1, jN]) (pc := 1520) hC dL_law_1520 (by decide) rfl rfl rfl ?_
  refine x_aloadA_n (pc := 1522) hC dL_law_1522 rfl rfl kk_166 (by decide) ?_
  refine x_aload_n (pc := 1523) hC dL_law_1523 rfl rfl (show (4 : Nat) ≠ 0 by decide) rfl ?_
  refine x_iload (pc := 1524) hC dL_law_1524 rfl ?_
  refine x_iconst (pc := 1526) hC dL_law_1526 ?_
  refine x_iadd (pc := 1527) hC dL_law_1527 ?_
  refine x_sa (pc := 1528) hC hSc hi1 ha1 dL_law_1528 ?_
  refine x_aload_n (pc := 1529) hC dL_law_1529 rfl rfl (show (4 : Nat) ≠ 0 by decide) rfl ?_
  refine x_iload (pc := 1530) hC dL_law_1530 rfl ?_
  refine x_iconst (pc := 1532) hC dL_law_1532 ?_
  refine x_iadd (pc := 1533) hC dL_law_1533 ?_
  refine x_sa (pc := 1534) hC hSc hi2 ha2 dL_law_1534 ?_
  obtain ⟨v4, M6, e5, h⟩ := jbW_some h
  refine x_cV (pc := 1535) hC mv_L_204 (ok_X10_set (Nat.le_of_ble_eq_true rfl) e5) rfl (Nat.le_of_ble_eq_true rfl) kk_166 rfl (by decide) (hro.sub (by omega) (by omega)) (Nat.le_of_ble_eq_true rfl) dL_law_1535 rfl ?_
  refine x_istore (ls2 := [(4, 0), jA 1, jA 166, jA 180, jI i, jI v1, jI v4]) (pc := 1538) hC dL_law_1538 (by decide) rfl rfl rfl ?_
  refine x_aloadA_n (pc := 1540) hC dL_law_1540 rfl rfl kk_166 (by decide) ?_
  obtain ⟨v7, e8, h⟩ := jbR_some h
  refine x_cV (pc := 1541) hC mv_L_143 (ok_X10_thrown (Nat.le_of_ble_eq_true rfl) e8) rfl (Nat.le_of_ble_eq_true rfl) kk_166 rfl (by decide) (hro.sub (by omega) (by omega)) (Nat.le_of_ble_eq_true rfl) dL_law_1541 rfl ?_
  refine x_iload (pc := 1544) hC dL_law_1544 rfl ?_
  obtain ⟨hk9, h⟩ := jck_some h
  refine x_icmp_eq (tgt := 1551) (pc := 1546) hC dL_law_1546 (by decide) (fun _ => ?_) (fun hc => absurd hk9 hc)
  refine x_iload (pc := 1551) hC dL_law_1551 rfl ?_
  refine x_if_ne (tgt := 1568) (pc := 1553) hC dL_law_1553 (by decide) (fun hc => ?_) (fun hc => ?_)
  · replace h := jit_neg hc h
    refine x_goto (tgt := 2756) (pc := 1568) hC dL_law_1568 (by decide) ?_
    refine x_kill 5 (ls2 := [(4, 0), jA 1, jA 166, jA 180, jI i, jN, jI v4]) rfl ?_
    refine x_kill 6 (ls2 := [(4, 0), jA 1, jA 166, jA 180, jI i, jN, jN]) rfl ?_
    refine x_widen (kc2 := kc + 4) (ks2 := ks + 24) (by omega) (by omega) ?_
    cases h
    exact kk
  · replace h := jit_pos hc h
    refine x_aloadA_n (pc := 1556) hC dL_law_1556 rfl rfl kk_180 (by decide) ?_
    refine x_iconst (pc := 1557) hC dL_law_1557 ?_
    refine x_lald (pc := 1558) hC kk_180 (by decide) (by decide +kernel) dL_law_1558 ?_
    refine x_iload (pc := 1559) hC dL_law_1559 rfl ?_
    refine x_i2l (pc := 1561) hC dL_law_1561 ?_
    refine x_lcmp (pc := 1562) hC dL_law_1562 ?_
    obtain ⟨hk10, h⟩ := jck_some h
    refine x_if_eq (tgt := 1568) (pc := 1563) hC dL_law_1563 (by decide) (fun _ => ?_) (fun hc => absurd hk10 hc)
    refine x_goto (tgt := 2756) (pc := 1568) hC dL_law_1568 (by decide) ?_
    refine x_kill 5 (ls2 := [(4, 0), jA 1, jA 166, jA 180, jI i, jN, jI v4]) rfl ?_
    refine x_kill 6 (ls2 := [(4, 0), jA 1, jA 166, jA 180, jI i, jN, jN]) rfl ?_
    refine x_widen (kc2 := kc + 4) (ks2 := ks + 24) (by omega) (by omega) ?_
    cases h
    exact kk
set_option maxHeartbeats 4000000 in
theorem st_20 {C : jC} {X : jX} (hC : jOk C X RL cL_law 7 180 60) (hSc : jSc C X) (hNs : jNs C) {kc ks : Nat} (hro : jRo C (kc + 4) (ks + 24)) {i : Int} {a1 : Int} {a2 : Int} (hi1 : 0 ≤ jw (i + 1) ∧ jw (i + 1) < ((jXs X).2.1 : Nat)) (ha1 : jsx X (jw (i + 1)) = a1) (hi2 : 0 ≤ jw (i + 2) ∧ jw (i + 2) < ((jXs X).2.1 : Nat)) (ha2 : jsx X (jw (i + 2)) = a2) {M Mz : jM} (h : s_20 a1 a2 M = some Mz) (kk : jG C X 180 7 (kc + 4) (ks + 24) 2756 [(4, 0), jA 1, jA 166, jA 180, jI i, jN, jN] [] Mz) : jG C X 180 7 kc ks 1571 [(4, 0), jA 1, jA 166, jA 180, jI i, jN, jN] [] M := by
  unfold s_20 at h
  refine x_aloadA_n (pc := 1571) hC dL_law_1571 rfl rfl kk_1 (by decide) ?_
  refine x_aload_n (pc := 1572) hC dL_law_1572 rfl rfl (show (4 : Nat) ≠ 0 by decide) rfl ?_
  refine x_iload (pc := 1573) hC dL_law_1573 rfl ?_
  refine x_iconst (pc := 1575) hC dL_law_1575 ?_
  refine x_iadd (pc := 1576) hC dL_law_1576 ?_
  refine x_sa (pc := 1577) hC hSc hi1 ha1 dL_law_1577 ?_
  refine x_aload_n (pc := 1578) hC dL_law_1578 rfl rfl (show (4 : Nat) ≠ 0 by decide) rfl ?_
  refine x_iload (pc := 1579) hC dL_law_1579 rfl ?_
  refine x_iconst (pc := 1581) hC dL_law_1581 ?_
  refine x_iadd (pc := 1582) hC dL_law_1582 ?_
  refine x_sa (pc := 1583) hC hSc hi2 ha2 dL_law_1583 ?_
  refine x_aloadA_n (pc := 1584) hC dL_law_1584 rfl rfl kk_180 (by decide) ?_
  obtain ⟨v1, M3, e2, h⟩ := jbW_some h
  refine x_cSW (pc := 1585) hC hNs mw_L_205 (ok_L_scratch (Nat.le_of_ble_eq_true rfl) e2) rfl (Nat.le_of_ble_eq_true rfl) (hro.sub (by omega) (by omega)) (Nat.le_of_ble_eq_true rfl) dL_law_1585 rfl (kc2 := kc + 2) (ks2 := ks + 12) rfl rfl ?_
  refine x_istore (ls2 := [(4, 0), jA 1, jA 166, jA 180, jI i, jI v1, jN]) (pc := 1588) hC dL_law_1588 (by decide) rfl rfl rfl ?_
  refine x_aloadA_n (pc := 1590) hC dL_law_1590 rfl rfl kk_166 (by decide) ?_
  refine x_aload_n (pc := 1591) hC dL_law_1591 rfl rfl (show (4 : Nat) ≠ 0 by decide) rfl ?_
  refine x_iload (pc := 1592) hC dL_law_1592 rfl ?_
  refine x_iconst (pc := 1594) hC dL_law_1594 ?_
  refine x_iadd (pc := 1595) hC dL_law_1595 ?_
  refine x_sa (pc := 1596) hC hSc hi1 ha1 dL_law_1596 ?_
  refine x_aload_n (pc := 1597) hC dL_law_1597 rfl rfl (show (4 : Nat) ≠ 0 by decide) rfl ?_
  refine x_iload (pc := 1598) hC dL_law_1598 rfl ?_
  refine x_iconst (pc := 1600) hC dL_law_1600 ?_
  refine x_iadd (pc := 1601) hC dL_law_1601 ?_
  refine x_sa (pc := 1602) hC hSc hi2 ha2 dL_law_1602 ?_
  obtain ⟨v4, M6, e5, h⟩ := jbW_some h
  refine x_cV (pc := 1603) hC mv_L_207 (ok_X10_scratch (Nat.le_of_ble_eq_true rfl) e5) rfl (Nat.le_of_ble_eq_true rfl) kk_166 rfl (by decide) (hro.sub (by omega) (by omega)) (Nat.le_of_ble_eq_true rfl) dL_law_1603 rfl ?_
  refine x_istore (ls2 := [(4, 0), jA 1, jA 166, jA 180, jI i, jI v1, jI v4]) (pc := 1606) hC dL_law_1606 (by decide) rfl rfl rfl ?_
  refine x_aloadA_n (pc := 1608) hC dL_law_1608 rfl rfl kk_166 (by decide) ?_
  obtain ⟨v7, e8, h⟩ := jbR_some h
  refine x_cV (pc := 1609) hC mv_L_143 (ok_X10_thrown (Nat.le_of_ble_eq_true rfl) e8) rfl (Nat.le_of_ble_eq_true rfl) kk_166 rfl (by decide) (hro.sub (by omega) (by omega)) (Nat.le_of_ble_eq_true rfl) dL_law_1609 rfl ?_
  refine x_iload (pc := 1612) hC dL_law_1612 rfl ?_
  obtain ⟨hk9, h⟩ := jck_some h
  refine x_icmp_eq (tgt := 1619) (pc := 1614) hC dL_law_1614 (by decide) (fun _ => ?_) (fun hc => absurd hk9 hc)
  refine x_iload (pc := 1619) hC dL_law_1619 rfl ?_
  refine x_if_ne (tgt := 1636) (pc := 1621) hC dL_law_1621 (by decide) (fun hc => ?_) (fun hc => ?_)
  · replace h := jit_neg hc h
    refine x_goto (tgt := 2756) (pc := 1636) hC dL_law_1636 (by decide) ?_
    refine x_kill 5 (ls2 := [(4, 0), jA 1, jA 166, jA 180, jI i, jN, jI v4]) rfl ?_
    refine x_kill 6 (ls2 := [(4, 0), jA 1, jA 166, jA 180, jI i, jN, jN]) rfl ?_
    refine x_widen (kc2 := kc + 4) (ks2 := ks + 24) (by omega) (by omega) ?_
    cases h
    exact kk
  · replace h := jit_pos hc h
    refine x_aloadA_n (pc := 1624) hC dL_law_1624 rfl rfl kk_180 (by decide) ?_
    refine x_iconst (pc := 1625) hC dL_law_1625 ?_
    refine x_lald (pc := 1626) hC kk_180 (by decide) (by decide +kernel) dL_law_1626 ?_
    refine x_iload (pc := 1627) hC dL_law_1627 rfl ?_
    refine x_i2l (pc := 1629) hC dL_law_1629 ?_
    refine x_lcmp (pc := 1630) hC dL_law_1630 ?_
    obtain ⟨hk10, h⟩ := jck_some h
    refine x_if_eq (tgt := 1636) (pc := 1631) hC dL_law_1631 (by decide) (fun _ => ?_) (fun hc => absurd hk10 hc)
    refine x_goto (tgt := 2756) (pc := 1636) hC dL_law_1636 (by decide) ?_
    refine x_kill 5 (ls2 := [(4, 0), jA 1, jA 166, jA 180, jI i, jN, jI v4]) rfl ?_
    refine x_kill 6 (ls2 := [(4, 0), jA 1, jA 166, jA 180, jI i, jN, jN]) rfl ?_
    refine x_widen (kc2 := kc + 4) (ks2 := ks + 24) (by omega) (by omega) ?_
    cases h
    exact kk
set_option maxHeartbeats 4000000 in
theorem st_21 {C : jC} {X : jX} (hC : jOk C X RL cL_law 7 180 60) (hSc : jSc C X) (hNs : jNs C) {kc ks : Nat} (hro : jRo C (kc + 4) (ks + 24)) {i : Int} {M Mz : jM} (h : s_21 M = some Mz) (kk : jG C X 180 7 (kc + 4) (ks + 24) 2756 [(4, 0), jA 1, jA 166, jA 180, jI i, jN, jN] [] Mz) : jG C X 180 7 kc ks 1639 [(4, 0), jA 1, jA 166, jA 180, jI i, jN, jN] [] M := by
  unfold s_21 at h
  refine x_aloadA_n (pc := 1639) hC dL_law_1639 rfl rfl kk_1 (by decide) ?_
  obtain ⟨v1, M3, e2, h⟩ := jbW_some h
  refine x_cV (pc := 1640) hC mv_L_208 (ok_X9_undo (Nat.le_of_ble_eq_true rfl) e2) rfl (Nat.le_of_ble_eq_true rfl) kk_1 rfl (by decide) (hro.sub (by omega) (by omega)) (Nat.le_of_ble_eq_true rfl) dL_law_1640 rfl ?_
  refine x_aloadA_n (pc := 1643) hC dL_law_1643 rfl rfl kk_166 (by decide) ?_
  obtain ⟨v4, M6, e5, h⟩ := jbW_some h
  refine x_cV (pc := 1644) hC mv_L_211 (ok_X10_undo (Nat.le_of_ble_eq_true rfl) e5) rfl (Nat.le_of_ble_eq_true rfl) kk_166 rfl (by decide) (hro.sub (by omega) (by omega)) (Nat.le_of_ble_eq_true rfl) dL_law_1644 rfl ?_
  obtain ⟨hk7, h⟩ := jck_some h
  refine x_icmp_eq (tgt := 2756) (pc := 1647) hC dL_law_1647 (by decide) (fun _ => ?_) (fun hc => absurd hk7 hc)
  refine x_widen (kc2 := kc + 4) (ks2 := ks + 24) (by omega) (by omega) ?_
  cases h
  exact kk
set_option maxHeartbeats 4000000 in
theorem st_22 {C : jC} {X : jX} (hC : jOk C X RL cL_law 7 180 60) (hSc : jSc C X) (hNs : jNs C) {kc ks : Nat} (hro : jRo C (kc + 4) (ks + 24)) {i : Int} {a1 : Int} (hi1 : 0 ≤ jw (i + 1) ∧ jw (i + 1) < ((jXs X).2.1 : Nat)) (ha1 : jsx X (jw (i + 1)) = a1) {M Mz : jM} (h : s_22 a1 M = some Mz) (kk : jG C X 180 7 (kc + 4) (ks + 24) 2756 [(4, 0), jA 1, jA 166, jA 180, jI i, jN, jN] [] Mz) : jG C X 180 7 kc ks 1652 [(4, 0), jA 1, jA 166, jA 180, jI i, jN, jN] [] M := by
  unfold s_22 at h
  refine x_aloadA_n (pc := 1652) hC dL_law_1652 rfl rfl kk_1 (by decide) ?_
  refine x_aload_n (pc := 1653) hC dL_law_1653 rfl rfl (show (4 : Nat) ≠ 0 by decide) rfl ?_
  refine x_iload (pc := 1654) hC dL_law_1654 rfl ?_
  refine x_iconst (pc := 1656) hC dL_law_1656 ?_
  refine x_iadd (pc := 1657) hC dL_law_1657 ?_
  refine x_sa (pc := 1658) hC hSc hi1 ha1 dL_law_1658 ?_
  refine x_aloadA_n (pc := 1659) hC dL_law_1659 rfl rfl kk_180 (by decide) ?_
  obtain ⟨v1, M3, e2, h⟩ := jbW_some h
  refine x_cSW (pc := 1660) hC hNs mw_L_212 (ok_L_bias (Nat.le_of_ble_eq_true rfl) e2) rfl (Nat.le_of_ble_eq_true rfl) (hro.sub (by omega) (by omega)) (Nat.le_of_ble_eq_true rfl) dL_law_1660 rfl (kc2 := kc + 1) (ks2 := ks + 6) rfl rfl ?_
  refine x_istore (ls2 := [(4, 0), jA 1, jA 166, jA 180, jI i, jI v1, jN]) (pc := 1663) hC dL_law_1663 (by decide) rfl rfl rfl ?_
  refine x_aloadA_n (pc := 1665) hC dL_law_1665 rfl rfl kk_166 (by decide) ?_
  refine x_aload_n (pc := 1666) hC dL_law_1666 rfl rfl (show (4 : Nat) ≠ 0 by decide) rfl ?_
  refine x_iload (pc := 1667) hC dL_law_1667 rfl ?_
  refine x_iconst (pc := 1669) hC dL_law_1669 ?_
  refine x_iadd (pc := 1670) hC dL_law_1670 ?_
  refine x_sa (pc := 1671) hC hSc hi1 ha1 dL_law_1671 ?_
  obtain ⟨v4, M6, e5, h⟩ := jbW_some h
  refine x_cV (pc := 1672) hC mv_L_214 (ok_X10_bias (Nat.le_of_ble_eq_true rfl) e5) rfl (Nat.le_of_ble_eq_true rfl) kk_166 rfl (by decide) (hro.sub (by omega) (by omega)) (Nat.le_of_ble_eq_true rfl) dL_law_1672 rfl ?_
  refine x_istore (ls2 := [(4, 0), jA 1, jA 166, jA 180, jI i, jI v1, jI v4]) (pc := 1675) hC dL_law_1675 (by decide) rfl rfl rfl ?_
  refine x_aloadA_n (pc := 1677) hC dL_law_1677 rfl rfl kk_166 (by decide) ?_
  obtain ⟨v7, e8, h⟩ := jbR_some h
  refine x_cV (pc := 1678) hC mv_L_143 (ok_X10_thrown (Nat.le_of_ble_eq_true rfl) e8) rfl (Nat.le_of_ble_eq_true rfl) kk_166 rfl (by decide) (hro.sub (by omega) (by omega)) (Nat.le_of_ble_eq_true rfl) dL_law_1678 rfl ?_
  refine x_iload (pc := 1681) hC dL_law_1681 rfl ?_
  obtain ⟨hk9, h⟩ := jck_some h
  refine x_icmp_eq (tgt := 1688) (pc := 1683) hC dL_law_1683 (by decide) (fun _ => ?_) (fun hc => absurd hk9 hc)
  refine x_iload (pc := 1688) hC dL_law_1688 rfl ?_
  refine x_if_ne (tgt := 1705) (pc := 1690) hC dL_law_1690 (by decide) (fun hc => ?_) (fun hc => ?_)
  · replace h := jit_neg hc h
    refine x_goto (tgt := 2756) (pc := 1705) hC dL_law_1705 (by decide) ?_
    refine x_kill 5 (ls2 := [(4, 0), jA 1, jA 166, jA 180, jI i, jN, jI v4]) rfl ?_
    refine x_kill 6 (ls2 := [(4, 0), jA 1, jA 166, jA 180, jI i, jN, jN]) rfl ?_
    refine x_widen (kc2 := kc + 4) (ks2 := ks + 24) (by omega) (by omega) ?_
    cases h
    exact kk
  · replace h := jit_pos hc h
    refine x_aloadA_n (pc := 1693) hC dL_law_1693 rfl rfl kk_180 (by decide) ?_
    refine x_iconst (pc := 1694) hC dL_law_1694 ?_
    refine x_lald (pc := 1695) hC kk_180 (by decide) (by decide +kernel) dL_law_1695 ?_
    refine x_iload (pc := 1696) hC dL_law_1696 rfl ?_
    refine x_i2l (pc := 1698) hC dL_law_1698 ?_
    refine x_lcmp (pc := 1699) hC dL_law_1699 ?_
    obtain ⟨hk10, h⟩ := jck_some h
    refine x_if_eq (tgt := 1705) (pc := 1700) hC dL_law_1700 (by decide) (fun _ => ?_) (fun hc => absurd hk10 hc)
    refine x_goto (tgt := 2756) (pc := 1705) hC dL_law_1705 (by decide) ?_
    refine x_kill 5 (ls2 := [(4, 0), jA 1, jA 166, jA 180, jI i, jN, jI v4]) rfl ?_
    refine x_kill 6 (ls2 := [(4, 0), jA 1, jA 166, jA 180, jI i, jN, jN]) rfl ?_
    refine x_widen (kc2 := kc + 4) (ks2 := ks + 24) (by omega) (by omega) ?_
    cases h
    exact kk
set_option maxHeartbeats 4000000 in
theorem st_23 {C : jC} {X : jX} (hC : jOk C X RL cL_law 7 180 60) (hSc : jSc C X) (hNs : jNs C) {kc ks : Nat} (hro : jRo C (kc + 4) (ks + 24)) {i : Int} {M Mz : jM} (h : s_23 M = some Mz) (kk : jG C X 180 7 (kc + 4) (ks + 24) 2756 [(4, 0), jA 1, jA 166, jA 180, jI i, jN, jN] [] Mz) : jG C X 180 7 kc ks 1708 [(4, 0), jA 1, jA 166, jA 180, jI i, jN, jN] [] M := by
  unfold s_23 at h
  refine x_aloadA_n (pc := 1708) hC dL_law_1708 rfl rfl kk_1 (by decide) ?_
  obtain ⟨v1, M3, e2, h⟩ := jbW_some h
  refine x_cV (pc := 1709) hC mv_L_215 (ok_X9_odd (Nat.le_of_ble_eq_true rfl) e2) rfl (Nat.le_of_ble_eq_true rfl) kk_1 rfl (by decide) (hro.sub (by omega) (by omega)) (Nat.le_of_ble_eq_true rfl) dL_law_1709 rfl ?_
  refine x_aloadA_n (pc := 1712) hC dL_law_1712 rfl rfl kk_166 (by decide) ?_
  obtain ⟨v4, M6, e5, h⟩ := jbW_some h
  refine x_cV (pc := 1713) hC mv_L_218 (ok_X10_odd (Nat.le_of_ble_eq_true rfl) e5) rfl (Nat.le_of_ble_eq_true rfl) kk_166 rfl (by decide) (hro.sub (by omega) (by omega)) (Nat.le_of_ble_eq_true rfl) dL_law_1713 rfl ?_
  obtain ⟨hk7, h⟩ := jck_some h
  refine x_icmp_eq (tgt := 2756) (pc := 1716) hC dL_law_1716 (by decide) (fun _ => ?_) (fun hc => absurd hk7 hc)
  refine x_widen (kc2 := kc + 4) (ks2 := ks + 24) (by omega) (by omega) ?_
  cases h
  exact kk
set_option maxHeartbeats 4000000 in
theorem st_24 {C : jC} {X : jX} (hC : jOk C X RL cL_law 7 180 60) (hSc : jSc C X) (hNs : jNs C) {kc ks : Nat} (hro : jRo C (kc + 4) (ks + 24)) {i : Int} {a1 : Int} {a2 : Int} (hi1 : 0 ≤ jw (i + 1) ∧ jw (i + 1) < ((jXs X).2.1 : Nat)) (ha1 : jsx X (jw (i + 1)) = a1) (hi2 : 0 ≤ jw (i + 2) ∧ jw (i + 2) < ((jXs X).2.1 : Nat)) (ha2 : jsx X (jw (i + 2)) = a2) {M Mz : jM} (h : s_24 a1 a2 M = some Mz) (kk : jG C X 180 7 (kc + 4) (ks + 24) 2756 [(4, 0), jA 1, jA 166, jA 180, jI i, jN, jN] [] Mz) : jG C X 180 7 kc ks 1721 [(4, 0), jA 1, jA 166, jA 180, jI i, jN, jN] [] M := by
  unfold s_24 at h
  refine x_aloadA_n (pc := 1721) hC dL_law_1721 rfl rfl kk_1 (by decide) ?_
  refine x_aload_n (pc := 1722) hC dL_law_1722 rfl rfl (show (4 : Nat) ≠ 0 by decide) rfl ?_
  refine x_iload (pc := 1723) hC dL_law_1723 rfl ?_
  refine x_iconst (pc := 1725) hC dL_law_1725 ?_
  refine x_iadd (pc := 1726) hC dL_law_1726 ?_
  refine x_sa (pc := 1727) hC hSc hi1 ha1 dL_law_1727 ?_
  refine x_aload_n (pc := 1728) hC dL_law_1728 rfl rfl (show (4 : Nat) ≠ 0 by decide) rfl ?_
  refine x_iload (pc := 1729) hC dL_law_1729 rfl ?_
  refine x_iconst (pc := 1731) hC dL_law_1731 ?_
  refine x_iadd (pc := 1732) hC dL_law_1732 ?_
  refine x_sa (pc := 1733) hC hSc hi2 ha2 dL_law_1733 ?_
  refine x_aloadA_n (pc := 1734) hC dL_law_1734 rfl rfl kk_180 (by decide) ?_
  obtain ⟨v1, M3, e2, h⟩ := jbW_some h
  refine x_cSW (pc := 1735) hC hNs mw_L_219 (ok_L_without (Nat.le_of_ble_eq_true rfl) e2) rfl (Nat.le_of_ble_eq_true rfl) (hro.sub (by omega) (by omega)) (Nat.le_of_ble_eq_true rfl) dL_law_1735 rfl (kc2 := kc + 3) (ks2 := ks + 18) rfl rfl ?_
  refine x_istore (ls2 := [(4, 0), jA 1, jA 166, jA 180, jI i, jI v1, jN]) (pc := 1738) hC dL_law_1738 (by decide) rfl rfl rfl ?_
  refine x_aloadA_n (pc := 1740) hC dL_law_1740 rfl rfl kk_166 (by decide) ?_
  refine x_aload_n (pc := 1741) hC dL_law_1741 rfl rfl (show (4 : Nat) ≠ 0 by decide) rfl ?_
  refine x_iload (pc := 1742) hC dL_law_1742 rfl ?_
  refine x_iconst (pc := 1744) hC dL_law_1744 ?_
  refine x_iadd (pc := 1745) hC dL_law_1745 ?_
  refine x_sa (pc := 1746) hC hSc hi1 ha1 dL_law_1746 ?_
  refine x_aload_n (pc := 1747) hC dL_law_1747 rfl rfl (show (4 : Nat) ≠ 0 by decide) rfl ?_
  refine x_iload (pc := 1748) hC dL_law_1748 rfl ?_
  refine x_iconst (pc := 1750) hC dL_law_1750 ?_
  refine x_iadd (pc := 1751) hC dL_law_1751 ?_
  refine x_sa (pc := 1752) hC hSc hi2 ha2 dL_law_1752 ?_
  obtain ⟨v4, M6, e5, h⟩ := jbW_some h
  refine x_cV (pc := 1753) hC mv_L_221 (ok_X10_without (Nat.le_of_ble_eq_true rfl) e5) rfl (Nat.le_of_ble_eq_true rfl) kk_166 rfl (by decide) (hro.sub (by omega) (by omega)) (Nat.le_of_ble_eq_true rfl) dL_law_1753 rfl ?_
  refine x_istore (ls2 := [(4, 0), jA 1, jA 166, jA 180, jI i, jI v1, jI v4]) (pc := 1756) hC dL_law_1756 (by decide) rfl rfl rfl ?_
  refine x_aloadA_n (pc := 1758) hC dL_law_1758 rfl rfl kk_166 (by decide) ?_
  obtain ⟨v7, e8, h⟩ := jbR_some h
  refine x_cV (pc := 1759) hC mv_L_143 (ok_X10_thrown (Nat.le_of_ble_eq_true rfl) e8) rfl (Nat.le_of_ble_eq_true rfl) kk_166 rfl (by decide) (hro.sub (by omega) (by omega)) (Nat.le_of_ble_eq_true rfl) dL_law_1759 rfl ?_
  refine x_iload (pc := 1762) hC dL_law_1762 rfl ?_
  obtain ⟨hk9, h⟩ := jck_some h
  refine x_icmp_eq (tgt := 1769) (pc := 1764) hC dL_law_1764 (by decide) (fun _ => ?_) (fun hc => absurd hk9 hc)
  refine x_iload (pc := 1769) hC dL_law_1769 rfl ?_
  refine x_if_ne (tgt := 1786) (pc := 1771) hC dL_law_1771 (by decide) (fun hc => ?_) (fun hc => ?_)
  · replace h := jit_neg hc h
    refine x_goto (tgt := 2756) (pc := 1786) hC dL_law_1786 (by decide) ?_
    refine x_kill 5 (ls2 := [(4, 0), jA 1, jA 166, jA 180, jI i, jN, jI v4]) rfl ?_
    refine x_kill 6 (ls2 := [(4, 0), jA 1, jA 166, jA 180, jI i, jN, jN]) rfl ?_
    refine x_widen (kc2 := kc + 4) (ks2 := ks + 24) (by omega) (by omega) ?_
    cases h
    exact kk
  · replace h := jit_pos hc h
    refine x_aloadA_n (pc := 1774) hC dL_law_1774 rfl rfl kk_180 (by decide) ?_
    refine x_iconst (pc := 1775) hC dL_law_1775 ?_
    refine x_lald (pc := 1776) hC kk_180 (by decide) (by decide +kernel) dL_law_1776 ?_
    refine x_iload (pc := 1777) hC dL_law_1777 rfl ?_
    refine x_i2l (pc := 1779) hC dL_law_1779 ?_
    refine x_lcmp (pc := 1780) hC dL_law_1780 ?_
    obtain ⟨hk10, h⟩ := jck_some h
    refine x_if_eq (tgt := 1786) (pc := 1781) hC dL_law_1781 (by decide) (fun _ => ?_) (fun hc => absurd hk10 hc)
    refine x_goto (tgt := 2756) (pc := 1786) hC dL_law_1786 (by decide) ?_
    refine x_kill 5 (ls2 := [(4, 0), jA 1, jA 166, jA 180, jI i, jN, jI v4]) rfl ?_
    refine x_kill 6 (ls2 := [(4, 0), jA 1, jA 166, jA 180, jI i, jN, jN]) rfl ?_
    refine x_widen (kc2 := kc + 4) (ks2 := ks + 24) (by omega) (by omega) ?_
    cases h
    exact kk
set_option maxHeartbeats 4000000 in
theorem st_25 {C : jC} {X : jX} (hC : jOk C X RL cL_law 7 180 60) (hSc : jSc C X) (hNs : jNs C) {kc ks : Nat} (hro : jRo C (kc + 4) (ks + 24)) {i : Int} {a1 : Int} (hi1 : 0 ≤ jw (i + 1) ∧ jw (i + 1) < ((jXs X).2.1 : Nat)) (ha1 : jsx X (jw (i + 1)) = a1) {M Mz : jM} (h : s_25 a1 M = some Mz) (kk : jG C X 180 7 (kc + 4) (ks + 24) 2756 [(4, 0), jA 1, jA 166, jA 180, jI i, jN, jN] [] Mz) : jG C X 180 7 kc ks 1789 [(4, 0), jA 1, jA 166, jA 180, jI i, jN, jN] [] M := by
  unfold s_25 at h
  refine x_aloadA_n (pc := 1789) hC dL_law_1789 rfl rfl kk_1 (by decide) ?_
  refine x_aload_n (pc := 1790) hC dL_law_1790 rfl rfl (show (4 : Nat) ≠ 0 by decide) rfl ?_
  refine x_iload (pc := 1791) hC dL_law_1791 rfl ?_
  refine x_iconst (pc := 1793) hC dL_law_1793 ?_
  refine x_iadd (pc := 1794) hC dL_law_1794 ?_
  refine x_sa (pc := 1795) hC hSc hi1 ha1 dL_law_1795 ?_
  refine x_aloadA_n (pc := 1796) hC dL_law_1796 rfl rfl kk_180 (by decide) ?_
  obtain ⟨v1, M3, e2, h⟩ := jbW_some h
  refine x_cSW (pc := 1797) hC hNs mw_L_222 (ok_L_sways (Nat.le_of_ble_eq_true rfl) e2) rfl (Nat.le_of_ble_eq_true rfl) (hro.sub (by omega) (by omega)) (Nat.le_of_ble_eq_true rfl) dL_law_1797 rfl (kc2 := kc + 2) (ks2 := ks + 12) rfl rfl ?_
  refine x_istore (ls2 := [(4, 0), jA 1, jA 166, jA 180, jI i, jI v1, jN]) (pc := 1800) hC dL_law_1800 (by decide) rfl rfl rfl ?_
  refine x_aloadA_n (pc := 1802) hC dL_law_1802 rfl rfl kk_166 (by decide) ?_
  refine x_aload_n (pc := 1803) hC dL_law_1803 rfl rfl (show (4 : Nat) ≠ 0 by decide) rfl ?_
  refine x_iload (pc := 1804) hC dL_law_1804 rfl ?_
  refine x_iconst (pc := 1806) hC dL_law_1806 ?_
  refine x_iadd (pc := 1807) hC dL_law_1807 ?_
  refine x_sa (pc := 1808) hC hSc hi1 ha1 dL_law_1808 ?_
  obtain ⟨v4, M6, e5, h⟩ := jbW_some h
  refine x_cV (pc := 1809) hC mv_L_224 (ok_X10_sways (Nat.le_of_ble_eq_true rfl) e5) rfl (Nat.le_of_ble_eq_true rfl) kk_166 rfl (by decide) (hro.sub (by omega) (by omega)) (Nat.le_of_ble_eq_true rfl) dL_law_1809 rfl ?_
  refine x_istore (ls2 := [(4, 0), jA 1, jA 166, jA 180, jI i, jI v1, jI v4]) (pc := 1812) hC dL_law_1812 (by decide) rfl rfl rfl ?_
  refine x_aloadA_n (pc := 1814) hC dL_law_1814 rfl rfl kk_166 (by decide) ?_
  obtain ⟨v7, e8, h⟩ := jbR_some h
  refine x_cV (pc := 1815) hC mv_L_143 (ok_X10_thrown (Nat.le_of_ble_eq_true rfl) e8) rfl (Nat.le_of_ble_eq_true rfl) kk_166 rfl (by decide) (hro.sub (by omega) (by omega)) (Nat.le_of_ble_eq_true rfl) dL_law_1815 rfl ?_
  refine x_iload (pc := 1818) hC dL_law_1818 rfl ?_
  obtain ⟨hk9, h⟩ := jck_some h
  refine x_icmp_eq (tgt := 1825) (pc := 1820) hC dL_law_1820 (by decide) (fun _ => ?_) (fun hc => absurd hk9 hc)
  refine x_iload (pc := 1825) hC dL_law_1825 rfl ?_
  refine x_if_ne (tgt := 1842) (pc := 1827) hC dL_law_1827 (by decide) (fun hc => ?_) (fun hc => ?_)
  · replace h := jit_neg hc h
    refine x_goto (tgt := 2756) (pc := 1842) hC dL_law_1842 (by decide) ?_
    refine x_kill 5 (ls2 := [(4, 0), jA 1, jA 166, jA 180, jI i, jN, jI v4]) rfl ?_
    refine x_kill 6 (ls2 := [(4, 0), jA 1, jA 166, jA 180, jI i, jN, jN]) rfl ?_
    refine x_widen (kc2 := kc + 4) (ks2 := ks + 24) (by omega) (by omega) ?_
    cases h
    exact kk
  · replace h := jit_pos hc h
    refine x_aloadA_n (pc := 1830) hC dL_law_1830 rfl rfl kk_180 (by decide) ?_
    refine x_iconst (pc := 1831) hC dL_law_1831 ?_
    refine x_lald (pc := 1832) hC kk_180 (by decide) (by decide +kernel) dL_law_1832 ?_
    refine x_iload (pc := 1833) hC dL_law_1833 rfl ?_
    refine x_i2l (pc := 1835) hC dL_law_1835 ?_
    refine x_lcmp (pc := 1836) hC dL_law_1836 ?_
    obtain ⟨hk10, h⟩ := jck_some h
    refine x_if_eq (tgt := 1842) (pc := 1837) hC dL_law_1837 (by decide) (fun _ => ?_) (fun hc => absurd hk10 hc)
    refine x_goto (tgt := 2756) (pc := 1842) hC dL_law_1842 (by decide) ?_
    refine x_kill 5 (ls2 := [(4, 0), jA 1, jA 166, jA 180, jI i, jN, jI v4]) rfl ?_
    refine x_kill 6 (ls2 := [(4, 0), jA 1, jA 166, jA 180, jI i, jN, jN]) rfl ?_
    refine x_widen (kc2 := kc + 4) (ks2 := ks + 24) (by omega) (by omega) ?_
    cases h
    exact kk
set_option maxHeartbeats 4000000 in
theorem st_26 {C : jC} {X : jX} (hC : jOk C X RL cL_law 7 180 60) (hSc : jSc C X) (hNs : jNs C) {kc ks : Nat} (hro : jRo C (kc + 4) (ks + 24)) {i : Int} {a1 : Int} {a2 : Int} (hi1 : 0 ≤ jw (i + 1) ∧ jw (i + 1) < ((jXs X).2.1 : Nat)) (ha1 : jsx X (jw (i + 1)) = a1) (hi2 : 0 ≤ jw (i + 2) ∧ jw (i + 2) < ((jXs X).2.1 : Nat)) (ha2 : jsx X (jw (i + 2)) = a2) {M Mz : jM} (h : s_26 a1 a2 M = some Mz) (kk : jG C X 180 7 (kc + 4) (ks + 24) 2756 [(4, 0), jA 1, jA 166, jA 180, jI i, jN, jN] [] Mz) : jG C X 180 7 kc ks 1845 [(4, 0), jA 1, jA 166, jA 180, jI i, jN, jN] [] M := by
  unfold s_26 at h
  refine x_aloadA_n (pc := 1845) hC dL_law_1845 rfl rfl kk_1 (by decide) ?_
  refine x_aload_n (pc := 1846) hC dL_law_1846 rfl rfl (show (4 : Nat) ≠ 0 by decide) rfl ?_
  refine x_iload (pc := 1847) hC dL_law_1847 rfl ?_
  refine x_iconst (pc := 1849) hC dL_law_1849 ?_
  refine x_iadd (pc := 1850) hC dL_law_1850 ?_
  refine x_sa (pc := 1851) hC hSc hi1 ha1 dL_law_1851 ?_
  refine x_aload_n (pc := 1852) hC dL_law_1852 rfl rfl (show (4 : Nat) ≠ 0 by decide) rfl ?_
  refine x_iload (pc := 1853) hC dL_law_1853 rfl ?_
  refine x_iconst (pc := 1855) hC dL_law_1855 ?_
  refine x_iadd (pc := 1856) hC dL_law_1856 ?_
  refine x_sa (pc := 1857) hC hSc hi2 ha2 dL_law_1857 ?_
  refine x_aloadA_n (pc := 1858) hC dL_law_1858 rfl rfl kk_180 (by decide) ?_
  obtain ⟨v1, M3, e2, h⟩ := jbW_some h
  refine x_cSW (pc := 1859) hC hNs mw_L_225 (ok_L_alone (Nat.le_of_ble_eq_true rfl) e2) rfl (Nat.le_of_ble_eq_true rfl) (hro.sub (by omega) (by omega)) (Nat.le_of_ble_eq_true rfl) dL_law_1859 rfl (kc2 := kc + 2) (ks2 := ks + 12) rfl rfl ?_
  refine x_istore (ls2 := [(4, 0), jA 1, jA 166, jA 180, jI i, jI v1, jN]) (pc := 1862) hC dL_law_1862 (by decide) rfl rfl rfl ?_
  refine x_aloadA_n (pc := 1864) hC dL_law_1864 rfl rfl kk_166 (by decide) ?_
  refine x_aload_n (pc := 1865) hC dL_law_1865 rfl rfl (show (4 : Nat) ≠ 0 by decide) rfl ?_
  refine x_iload (pc := 1866) hC dL_law_1866 rfl ?_
  refine x_iconst (pc := 1868) hC dL_law_1868 ?_
  refine x_iadd (pc := 1869) hC dL_law_1869 ?_
  refine x_sa (pc := 1870) hC hSc hi1 ha1 dL_law_1870 ?_
  refine x_aload_n (pc := 1871) hC dL_law_1871 rfl rfl (show (4 : Nat) ≠ 0 by decide) rfl ?_
  refine x_iload (pc := 1872) hC dL_law_1872 rfl ?_
  refine x_iconst (pc := 1874) hC dL_law_1874 ?_
  refine x_iadd (pc := 1875) hC dL_law_1875 ?_
  refine x_sa (pc := 1876) hC hSc hi2 ha2 dL_law_1876 ?_
  obtain ⟨v4, M6, e5, h⟩ := jbW_some h
  refine x_cV (pc := 1877) hC mv_L_227 (ok_X10_alone (Nat.le_of_ble_eq_true rfl) e5) rfl (Nat.le_of_ble_eq_true rfl) kk_166 rfl (by decide) (hro.sub (by omega) (by omega)) (Nat.le_of_ble_eq_true rfl) dL_law_1877 rfl ?_
  refine x_istore (ls2 := [(4, 0), jA 1, jA 166, jA 180, jI i, jI v1, jI v4]) (pc := 1880) hC dL_law_1880 (by decide) rfl rfl rfl ?_
  refine x_aloadA_n (pc := 1882) hC dL_law_1882 rfl rfl kk_166 (by decide) ?_
  obtain ⟨v7, e8, h⟩ := jbR_some h
  refine x_cV (pc := 1883) hC mv_L_143 (ok_X10_thrown (Nat.le_of_ble_eq_true rfl) e8) rfl (Nat.le_of_ble_eq_true rfl) kk_166 rfl (by decide) (hro.sub (by omega) (by omega)) (Nat.le_of_ble_eq_true rfl) dL_law_1883 rfl ?_
  refine x_iload (pc := 1886) hC dL_law_1886 rfl ?_
  obtain ⟨hk9, h⟩ := jck_some h
  refine x_icmp_eq (tgt := 1893) (pc := 1888) hC dL_law_1888 (by decide) (fun _ => ?_) (fun hc => absurd hk9 hc)
  refine x_iload (pc := 1893) hC dL_law_1893 rfl ?_
  refine x_if_ne (tgt := 1910) (pc := 1895) hC dL_law_1895 (by decide) (fun hc => ?_) (fun hc => ?_)
  · replace h := jit_neg hc h
    refine x_goto (tgt := 2756) (pc := 1910) hC dL_law_1910 (by decide) ?_
    refine x_kill 5 (ls2 := [(4, 0), jA 1, jA 166, jA 180, jI i, jN, jI v4]) rfl ?_
    refine x_kill 6 (ls2 := [(4, 0), jA 1, jA 166, jA 180, jI i, jN, jN]) rfl ?_
    refine x_widen (kc2 := kc + 4) (ks2 := ks + 24) (by omega) (by omega) ?_
    cases h
    exact kk
  · replace h := jit_pos hc h
    refine x_aloadA_n (pc := 1898) hC dL_law_1898 rfl rfl kk_180 (by decide) ?_
    refine x_iconst (pc := 1899) hC dL_law_1899 ?_
    refine x_lald (pc := 1900) hC kk_180 (by decide) (by decide +kernel) dL_law_1900 ?_
    refine x_iload (pc := 1901) hC dL_law_1901 rfl ?_
    refine x_i2l (pc := 1903) hC dL_law_1903 ?_
    refine x_lcmp (pc := 1904) hC dL_law_1904 ?_
    obtain ⟨hk10, h⟩ := jck_some h
    refine x_if_eq (tgt := 1910) (pc := 1905) hC dL_law_1905 (by decide) (fun _ => ?_) (fun hc => absurd hk10 hc)
    refine x_goto (tgt := 2756) (pc := 1910) hC dL_law_1910 (by decide) ?_
    refine x_kill 5 (ls2 := [(4, 0), jA 1, jA 166, jA 180, jI i, jN, jI v4]) rfl ?_
    refine x_kill 6 (ls2 := [(4, 0), jA 1, jA 166, jA 180, jI i, jN, jN]) rfl ?_
    refine x_widen (kc2 := kc + 4) (ks2 := ks + 24) (by omega) (by omega) ?_
    cases h
    exact kk
set_option maxHeartbeats 4000000 in
theorem st_27 {C : jC} {X : jX} (hC : jOk C X RL cL_law 7 180 60) (hSc : jSc C X) (hNs : jNs C) {kc ks : Nat} (hro : jRo C (kc + 4) (ks + 24)) {i : Int} {a1 : Int} {a2 : Int} (hi1 : 0 ≤ jw (i + 1) ∧ jw (i + 1) < ((jXs X).2.1 : Nat)) (ha1 : jsx X (jw (i + 1)) = a1) (hi2 : 0 ≤ jw (i + 2) ∧ jw (i + 2) < ((jXs X).2.1 : Nat)) (ha2 : jsx X (jw (i + 2)) = a2) {M Mz : jM} (h : s_27 a1 a2 M = some Mz) (kk : jG C X 180 7 (kc + 4) (ks + 24) 2756 [(4, 0), jA 1, jA 166, jA 180, jI i, jN, jN] [] Mz) : jG C X 180 7 kc ks 1913 [(4, 0), jA 1, jA 166, jA 180, jI i, jN, jN] [] M := by
  unfold s_27 at h
  refine x_aloadA_n (pc := 1913) hC dL_law_1913 rfl rfl kk_1 (by decide) ?_
  refine x_aload_n (pc := 1914) hC dL_law_1914 rfl rfl (show (4 : Nat) ≠ 0 by decide) rfl ?_
  refine x_iload (pc := 1915) hC dL_law_1915 rfl ?_
  refine x_iconst (pc := 1917) hC dL_law_1917 ?_
  refine x_iadd (pc := 1918) hC dL_law_1918 ?_
  refine x_sa (pc := 1919) hC hSc hi1 ha1 dL_law_1919 ?_
  refine x_aload_n (pc := 1920) hC dL_law_1920 rfl rfl (show (4 : Nat) ≠ 0 by decide) rfl ?_
  refine x_iload (pc := 1921) hC dL_law_1921 rfl ?_
  refine x_iconst (pc := 1923) hC dL_law_1923 ?_
  refine x_iadd (pc := 1924) hC dL_law_1924 ?_
  refine x_sa (pc := 1925) hC hSc hi2 ha2 dL_law_1925 ?_
  refine x_aloadA_n (pc := 1926) hC dL_law_1926 rfl rfl kk_180 (by decide) ?_
  obtain ⟨v1, M3, e2, h⟩ := jbW_some h
  refine x_cSW (pc := 1927) hC hNs mw_L_228 (ok_L_place (Nat.le_of_ble_eq_true rfl) e2) rfl (Nat.le_of_ble_eq_true rfl) (hro.sub (by omega) (by omega)) (Nat.le_of_ble_eq_true rfl) dL_law_1927 rfl (kc2 := kc + 2) (ks2 := ks + 12) rfl rfl ?_
  refine x_istore (ls2 := [(4, 0), jA 1, jA 166, jA 180, jI i, jI v1, jN]) (pc := 1930) hC dL_law_1930 (by decide) rfl rfl rfl ?_
  refine x_aloadA_n (pc := 1932) hC dL_law_1932 rfl rfl kk_166 (by decide) ?_
  refine x_aload_n (pc := 1933) hC dL_law_1933 rfl rfl (show (4 : Nat) ≠ 0 by decide) rfl ?_
  refine x_iload (pc := 1934) hC dL_law_1934 rfl ?_
  refine x_iconst (pc := 1936) hC dL_law_1936 ?_
  refine x_iadd (pc := 1937) hC dL_law_1937 ?_
  refine x_sa (pc := 1938) hC hSc hi1 ha1 dL_law_1938 ?_
  refine x_aload_n (pc := 1939) hC dL_law_1939 rfl rfl (show (4 : Nat) ≠ 0 by decide) rfl ?_
  refine x_iload (pc := 1940) hC dL_law_1940 rfl ?_
  refine x_iconst (pc := 1942) hC dL_law_1942 ?_
  refine x_iadd (pc := 1943) hC dL_law_1943 ?_
  refine x_sa (pc := 1944) hC hSc hi2 ha2 dL_law_1944 ?_
  obtain ⟨v4, M6, e5, h⟩ := jbW_some h
  refine x_cV (pc := 1945) hC mv_L_230 (ok_X10_place (Nat.le_of_ble_eq_true rfl) e5) rfl (Nat.le_of_ble_eq_true rfl) kk_166 rfl (by decide) (hro.sub (by omega) (by omega)) (Nat.le_of_ble_eq_true rfl) dL_law_1945 rfl ?_
  refine x_istore (ls2 := [(4, 0), jA 1, jA 166, jA 180, jI i, jI v1, jI v4]) (pc := 1948) hC dL_law_1948 (by decide) rfl rfl rfl ?_
  refine x_aloadA_n (pc := 1950) hC dL_law_1950 rfl rfl kk_166 (by decide) ?_
  obtain ⟨v7, e8, h⟩ := jbR_some h
  refine x_cV (pc := 1951) hC mv_L_143 (ok_X10_thrown (Nat.le_of_ble_eq_true rfl) e8) rfl (Nat.le_of_ble_eq_true rfl) kk_166 rfl (by decide) (hro.sub (by omega) (by omega)) (Nat.le_of_ble_eq_true rfl) dL_law_1951 rfl ?_
  refine x_iload (pc := 1954) hC dL_law_1954 rfl ?_
  obtain ⟨hk9, h⟩ := jck_some h
  refine x_icmp_eq (tgt := 1961) (pc := 1956) hC dL_law_1956 (by decide) (fun _ => ?_) (fun hc => absurd hk9 hc)
  refine x_iload (pc := 1961) hC dL_law_1961 rfl ?_
  refine x_if_ne (tgt := 1978) (pc := 1963) hC dL_law_1963 (by decide) (fun hc => ?_) (fun hc => ?_)
  · replace h := jit_neg hc h
    refine x_goto (tgt := 2756) (pc := 1978) hC dL_law_1978 (by decide) ?_
    refine x_kill 5 (ls2 := [(4, 0), jA 1, jA 166, jA 180, jI i, jN, jI v4]) rfl ?_
    refine x_kill 6 (ls2 := [(4, 0), jA 1, jA 166, jA 180, jI i, jN, jN]) rfl ?_
    refine x_widen (kc2 := kc + 4) (ks2 := ks + 24) (by omega) (by omega) ?_
    cases h
    exact kk
  · replace h := jit_pos hc h
    refine x_aloadA_n (pc := 1966) hC dL_law_1966 rfl rfl kk_180 (by decide) ?_
    refine x_iconst (pc := 1967) hC dL_law_1967 ?_
    refine x_lald (pc := 1968) hC kk_180 (by decide) (by decide +kernel) dL_law_1968 ?_
    refine x_iload (pc := 1969) hC dL_law_1969 rfl ?_
    refine x_i2l (pc := 1971) hC dL_law_1971 ?_
    refine x_lcmp (pc := 1972) hC dL_law_1972 ?_
    obtain ⟨hk10, h⟩ := jck_some h
    refine x_if_eq (tgt := 1978) (pc := 1973) hC dL_law_1973 (by decide) (fun _ => ?_) (fun hc => absurd hk10 hc)
    refine x_goto (tgt := 2756) (pc := 1978) hC dL_law_1978 (by decide) ?_
    refine x_kill 5 (ls2 := [(4, 0), jA 1, jA 166, jA 180, jI i, jN, jI v4]) rfl ?_
    refine x_kill 6 (ls2 := [(4, 0), jA 1, jA 166, jA 180, jI i, jN, jN]) rfl ?_
    refine x_widen (kc2 := kc + 4) (ks2 := ks + 24) (by omega) (by omega) ?_
    cases h
    exact kk
set_option maxHeartbeats 4000000 in
theorem st_28 {C : jC} {X : jX} (hC : jOk C X RL cL_law 7 180 60) (hSc : jSc C X) (hNs : jNs C) {kc ks : Nat} (hro : jRo C (kc + 4) (ks + 24)) {i : Int} {a1 : Int} (hi1 : 0 ≤ jw (i + 1) ∧ jw (i + 1) < ((jXs X).2.1 : Nat)) (ha1 : jsx X (jw (i + 1)) = a1) {M Mz : jM} (h : s_28 a1 M = some Mz) (kk : jG C X 180 7 (kc + 4) (ks + 24) 2756 [(4, 0), jA 1, jA 166, jA 180, jI i, jN, jN] [] Mz) : jG C X 180 7 kc ks 1981 [(4, 0), jA 1, jA 166, jA 180, jI i, jN, jN] [] M := by
  unfold s_28 at h
  refine x_aloadA_n (pc := 1981) hC dL_law_1981 rfl rfl kk_1 (by decide) ?_
  refine x_aload_n (pc := 1982) hC dL_law_1982 rfl rfl (show (4 : Nat) ≠ 0 by decide) rfl ?_
  refine x_iload (pc := 1983) hC dL_law_1983 rfl ?_
  refine x_iconst (pc := 1985) hC dL_law_1985 ?_
  refine x_iadd (pc := 1986) hC dL_law_1986 ?_
  refine x_sa (pc := 1987) hC hSc hi1 ha1 dL_law_1987 ?_
  refine x_aloadA_n (pc := 1988) hC dL_law_1988 rfl rfl kk_180 (by decide) ?_
  obtain ⟨v1, M3, e2, h⟩ := jbW_some h
  refine x_cSW (pc := 1989) hC hNs mw_L_231 (ok_L_majority (Nat.le_of_ble_eq_true rfl) e2) rfl (Nat.le_of_ble_eq_true rfl) (hro.sub (by omega) (by omega)) (Nat.le_of_ble_eq_true rfl) dL_law_1989 rfl (kc2 := kc + 1) (ks2 := ks + 6) rfl rfl ?_
  refine x_istore (ls2 := [(4, 0), jA 1, jA 166, jA 180, jI i, jI v1, jN]) (pc := 1992) hC dL_law_1992 (by decide) rfl rfl rfl ?_
  refine x_aloadA_n (pc := 1994) hC dL_law_1994 rfl rfl kk_166 (by decide) ?_
  refine x_aload_n (pc := 1995) hC dL_law_1995 rfl rfl (show (4 : Nat) ≠ 0 by decide) rfl ?_
  refine x_iload (pc := 1996) hC dL_law_1996 rfl ?_
  refine x_iconst (pc := 1998) hC dL_law_1998 ?_
  refine x_iadd (pc := 1999) hC dL_law_1999 ?_
  refine x_sa (pc := 2000) hC hSc hi1 ha1 dL_law_2000 ?_
  obtain ⟨v4, M6, e5, h⟩ := jbW_some h
  refine x_cV (pc := 2001) hC mv_L_233 (ok_X10_majority (Nat.le_of_ble_eq_true rfl) e5) rfl (Nat.le_of_ble_eq_true rfl) kk_166 rfl (by decide) (hro.sub (by omega) (by omega)) (Nat.le_of_ble_eq_true rfl) dL_law_2001 rfl ?_
  refine x_istore (ls2 := [(4, 0), jA 1, jA 166, jA 180, jI i, jI v1, jI v4]) (pc := 2004) hC dL_law_2004 (by decide) rfl rfl rfl ?_
  refine x_aloadA_n (pc := 2006) hC dL_law_2006 rfl rfl kk_166 (by decide) ?_
  obtain ⟨v7, e8, h⟩ := jbR_some h
  refine x_cV (pc := 2007) hC mv_L_143 (ok_X10_thrown (Nat.le_of_ble_eq_true rfl) e8) rfl (Nat.le_of_ble_eq_true rfl) kk_166 rfl (by decide) (hro.sub (by omega) (by omega)) (Nat.le_of_ble_eq_true rfl) dL_law_2007 rfl ?_
  refine x_iload (pc := 2010) hC dL_law_2010 rfl ?_
  obtain ⟨hk9, h⟩ := jck_some h
  refine x_icmp_eq (tgt := 2017) (pc := 2012) hC dL_law_2012 (by decide) (fun _ => ?_) (fun hc => absurd hk9 hc)
  refine x_iload (pc := 2017) hC dL_law_2017 rfl ?_
  refine x_if_ne (tgt := 2034) (pc := 2019) hC dL_law_2019 (by decide) (fun hc => ?_) (fun hc => ?_)
  · replace h := jit_neg hc h
    refine x_goto (tgt := 2756) (pc := 2034) hC dL_law_2034 (by decide) ?_
    refine x_kill 5 (ls2 := [(4, 0), jA 1, jA 166, jA 180, jI i, jN, jI v4]) rfl ?_
    refine x_kill 6 (ls2 := [(4, 0), jA 1, jA 166, jA 180, jI i, jN, jN]) rfl ?_
    refine x_widen (kc2 := kc + 4) (ks2 := ks + 24) (by omega) (by omega) ?_
    cases h
    exact kk
  · replace h := jit_pos hc h
    refine x_aloadA_n (pc := 2022) hC dL_law_2022 rfl rfl kk_180 (by decide) ?_
    refine x_iconst (pc := 2023) hC dL_law_2023 ?_
    refine x_lald (pc := 2024) hC kk_180 (by decide) (by decide +kernel) dL_law_2024 ?_
    refine x_iload (pc := 2025) hC dL_law_2025 rfl ?_
    refine x_i2l (pc := 2027) hC dL_law_2027 ?_
    refine x_lcmp (pc := 2028) hC dL_law_2028 ?_
    obtain ⟨hk10, h⟩ := jck_some h
    refine x_if_eq (tgt := 2034) (pc := 2029) hC dL_law_2029 (by decide) (fun _ => ?_) (fun hc => absurd hk10 hc)
    refine x_goto (tgt := 2756) (pc := 2034) hC dL_law_2034 (by decide) ?_
    refine x_kill 5 (ls2 := [(4, 0), jA 1, jA 166, jA 180, jI i, jN, jI v4]) rfl ?_
    refine x_kill 6 (ls2 := [(4, 0), jA 1, jA 166, jA 180, jI i, jN, jN]) rfl ?_
    refine x_widen (kc2 := kc + 4) (ks2 := ks + 24) (by omega) (by omega) ?_
    cases h
    exact kk
set_option maxHeartbeats 4000000 in
theorem st_29 {C : jC} {X : jX} (hC : jOk C X RL cL_law 7 180 60) (hSc : jSc C X) (hNs : jNs C) {kc ks : Nat} (hro : jRo C (kc + 4) (ks + 24)) {i : Int} {a1 : Int} (hi1 : 0 ≤ jw (i + 1) ∧ jw (i + 1) < ((jXs X).2.1 : Nat)) (ha1 : jsx X (jw (i + 1)) = a1) {M Mz : jM} (h : s_29 a1 M = some Mz) (kk : jG C X 180 7 (kc + 4) (ks + 24) 2756 [(4, 0), jA 1, jA 166, jA 180, jI i, jN, jN] [] Mz) : jG C X 180 7 kc ks 2037 [(4, 0), jA 1, jA 166, jA 180, jI i, jN, jN] [] M := by
  unfold s_29 at h
  refine x_aloadA_n (pc := 2037) hC dL_law_2037 rfl rfl kk_1 (by decide) ?_
  refine x_aload_n (pc := 2038) hC dL_law_2038 rfl rfl (show (4 : Nat) ≠ 0 by decide) rfl ?_
  refine x_iload (pc := 2039) hC dL_law_2039 rfl ?_
  refine x_iconst (pc := 2041) hC dL_law_2041 ?_
  refine x_iadd (pc := 2042) hC dL_law_2042 ?_
  refine x_sa (pc := 2043) hC hSc hi1 ha1 dL_law_2043 ?_
  obtain ⟨v1, M3, e2, h⟩ := jbW_some h
  refine x_cV (pc := 2044) hC mv_L_234 (ok_X9_major (Nat.le_of_ble_eq_true rfl) e2) rfl (Nat.le_of_ble_eq_true rfl) kk_1 rfl (by decide) (hro.sub (by omega) (by omega)) (Nat.le_of_ble_eq_true rfl) dL_law_2044 rfl ?_
  refine x_aloadA_n (pc := 2047) hC dL_law_2047 rfl rfl kk_166 (by decide) ?_
  refine x_aload_n (pc := 2048) hC dL_law_2048 rfl rfl (show (4 : Nat) ≠ 0 by decide) rfl ?_
  refine x_iload (pc := 2049) hC dL_law_2049 rfl ?_
  refine x_iconst (pc := 2051) hC dL_law_2051 ?_
  refine x_iadd (pc := 2052) hC dL_law_2052 ?_
  refine x_sa (pc := 2053) hC hSc hi1 ha1 dL_law_2053 ?_
  obtain ⟨v4, M6, e5, h⟩ := jbW_some h
  refine x_cV (pc := 2054) hC mv_L_237 (ok_X10_major (Nat.le_of_ble_eq_true rfl) e5) rfl (Nat.le_of_ble_eq_true rfl) kk_166 rfl (by decide) (hro.sub (by omega) (by omega)) (Nat.le_of_ble_eq_true rfl) dL_law_2054 rfl ?_
  obtain ⟨hk7, h⟩ := jck_some h
  refine x_icmp_eq (tgt := 2756) (pc := 2057) hC dL_law_2057 (by decide) (fun _ => ?_) (fun hc => absurd hk7 hc)
  refine x_widen (kc2 := kc + 4) (ks2 := ks + 24) (by omega) (by omega) ?_
  cases h
  exact kk
set_option maxHeartbeats 4000000 in
theorem st_30 {C : jC} {X : jX} (hC : jOk C X RL cL_law 7 180 60) (hSc : jSc C X) (hNs : jNs C) {kc ks : Nat} (hro : jRo C (kc + 4) (ks + 24)) {i : Int} {a1 : Int} {a2 : Int} (hi1 : 0 ≤ jw (i + 1) ∧ jw (i + 1) < ((jXs X).2.1 : Nat)) (ha1 : jsx X (jw (i + 1)) = a1) (hi2 : 0 ≤ jw (i + 2) ∧ jw (i + 2) < ((jXs X).2.1 : Nat)) (ha2 : jsx X (jw (i + 2)) = a2) {M Mz : jM} (h : s_30 a1 a2 M = some Mz) (kk : jG C X 180 7 (kc + 4) (ks + 24) 2756 [(4, 0), jA 1, jA 166, jA 180, jI i, jN, jN] [] Mz) : jG C X 180 7 kc ks 2062 [(4, 0), jA 1, jA 166, jA 180, jI i, jN, jN] [] M := by
  unfold s_30 at h
  refine x_aloadA_n (pc := 2062) hC dL_law_2062 rfl rfl kk_1 (by decide) ?_
  refine x_aload_n (pc := 2063) hC dL_law_2063 rfl rfl (show (4 : Nat) ≠ 0 by decide) rfl ?_
  refine x_iload (pc := 2064) hC dL_law_2064 rfl ?_
  refine x_iconst (pc := 2066) hC dL_law_2066 ?_
  refine x_iadd (pc := 2067) hC dL_law_2067 ?_
  refine x_sa (pc := 2068) hC hSc hi1 ha1 dL_law_2068 ?_
  refine x_aload_n (pc := 2069) hC dL_law_2069 rfl rfl (show (4 : Nat) ≠ 0 by decide) rfl ?_
  refine x_iload (pc := 2070) hC dL_law_2070 rfl ?_
  refine x_iconst (pc := 2072) hC dL_law_2072 ?_
  refine x_iadd (pc := 2073) hC dL_law_2073 ?_
  refine x_sa (pc := 2074) hC hSc hi2 ha2 dL_law_2074 ?_
  refine x_aloadA_n (pc := 2075) hC dL_law_2075 rfl rfl kk_180 (by decide) ?_
  obtain ⟨v1, M3, e2, h⟩ := jbW_some h
  refine x_cSW (pc := 2076) hC hNs mw_L_238 (ok_L_panel (Nat.le_of_ble_eq_true rfl) e2) rfl (Nat.le_of_ble_eq_true rfl) (hro.sub (by omega) (by omega)) (Nat.le_of_ble_eq_true rfl) dL_law_2076 rfl (kc2 := kc + 1) (ks2 := ks + 6) rfl rfl ?_
  refine x_istore (ls2 := [(4, 0), jA 1, jA 166, jA 180, jI i, jI v1, jN]) (pc := 2079) hC dL_law_2079 (by decide) rfl rfl rfl ?_
  refine x_aloadA_n (pc := 2081) hC dL_law_2081 rfl rfl kk_166 (by decide) ?_
  refine x_aload_n (pc := 2082) hC dL_law_2082 rfl rfl (show (4 : Nat) ≠ 0 by decide) rfl ?_
  refine x_iload (pc := 2083) hC dL_law_2083 rfl ?_
  refine x_iconst (pc := 2085) hC dL_law_2085 ?_
  refine x_iadd (pc := 2086) hC dL_law_2086 ?_
  refine x_sa (pc := 2087) hC hSc hi1 ha1 dL_law_2087 ?_
  refine x_aload_n (pc := 2088) hC dL_law_2088 rfl rfl (show (4 : Nat) ≠ 0 by decide) rfl ?_
  refine x_iload (pc := 2089) hC dL_law_2089 rfl ?_
  refine x_iconst (pc := 2091) hC dL_law_2091 ?_
  refine x_iadd (pc := 2092) hC dL_law_2092 ?_
  refine x_sa (pc := 2093) hC hSc hi2 ha2 dL_law_2093 ?_
  obtain ⟨v4, M6, e5, h⟩ := jbW_some h
  refine x_cV (pc := 2094) hC mv_L_240 (ok_X10_panel (Nat.le_of_ble_eq_true rfl) e5) rfl (Nat.le_of_ble_eq_true rfl) kk_166 rfl (by decide) (hro.sub (by omega) (by omega)) (Nat.le_of_ble_eq_true rfl) dL_law_2094 rfl ?_
  refine x_istore (ls2 := [(4, 0), jA 1, jA 166, jA 180, jI i, jI v1, jI v4]) (pc := 2097) hC dL_law_2097 (by decide) rfl rfl rfl ?_
  refine x_aloadA_n (pc := 2099) hC dL_law_2099 rfl rfl kk_166 (by decide) ?_
  obtain ⟨v7, e8, h⟩ := jbR_some h
  refine x_cV (pc := 2100) hC mv_L_143 (ok_X10_thrown (Nat.le_of_ble_eq_true rfl) e8) rfl (Nat.le_of_ble_eq_true rfl) kk_166 rfl (by decide) (hro.sub (by omega) (by omega)) (Nat.le_of_ble_eq_true rfl) dL_law_2100 rfl ?_
  refine x_iload (pc := 2103) hC dL_law_2103 rfl ?_
  obtain ⟨hk9, h⟩ := jck_some h
  refine x_icmp_eq (tgt := 2110) (pc := 2105) hC dL_law_2105 (by decide) (fun _ => ?_) (fun hc => absurd hk9 hc)
  refine x_iload (pc := 2110) hC dL_law_2110 rfl ?_
  refine x_if_ne (tgt := 2127) (pc := 2112) hC dL_law_2112 (by decide) (fun hc => ?_) (fun hc => ?_)
  · replace h := jit_neg hc h
    refine x_goto (tgt := 2756) (pc := 2127) hC dL_law_2127 (by decide) ?_
    refine x_kill 5 (ls2 := [(4, 0), jA 1, jA 166, jA 180, jI i, jN, jI v4]) rfl ?_
    refine x_kill 6 (ls2 := [(4, 0), jA 1, jA 166, jA 180, jI i, jN, jN]) rfl ?_
    refine x_widen (kc2 := kc + 4) (ks2 := ks + 24) (by omega) (by omega) ?_
    cases h
    exact kk
  · replace h := jit_pos hc h
    refine x_aloadA_n (pc := 2115) hC dL_law_2115 rfl rfl kk_180 (by decide) ?_
    refine x_iconst (pc := 2116) hC dL_law_2116 ?_
    refine x_lald (pc := 2117) hC kk_180 (by decide) (by decide +kernel) dL_law_2117 ?_
    refine x_iload (pc := 2118) hC dL_law_2118 rfl ?_
    refine x_i2l (pc := 2120) hC dL_law_2120 ?_
    refine x_lcmp (pc := 2121) hC dL_law_2121 ?_
    obtain ⟨hk10, h⟩ := jck_some h
    refine x_if_eq (tgt := 2127) (pc := 2122) hC dL_law_2122 (by decide) (fun _ => ?_) (fun hc => absurd hk10 hc)
    refine x_goto (tgt := 2756) (pc := 2127) hC dL_law_2127 (by decide) ?_
    refine x_kill 5 (ls2 := [(4, 0), jA 1, jA 166, jA 180, jI i, jN, jI v4]) rfl ?_
    refine x_kill 6 (ls2 := [(4, 0), jA 1, jA 166, jA 180, jI i, jN, jN]) rfl ?_
    refine x_widen (kc2 := kc + 4) (ks2 := ks + 24) (by omega) (by omega) ?_
    cases h
    exact kk
set_option maxHeartbeats 4000000 in
theorem st_31 {C : jC} {X : jX} (hC : jOk C X RL cL_law 7 180 60) (hSc : jSc C X) (hNs : jNs C) {kc ks : Nat} (hro : jRo C (kc + 4) (ks + 24)) {i : Int} {a1 : Int} {a2 : Int} (hi1 : 0 ≤ jw (i + 1) ∧ jw (i + 1) < ((jXs X).2.1 : Nat)) (ha1 : jsx X (jw (i + 1)) = a1) (hi2 : 0 ≤ jw (i + 2) ∧ jw (i + 2) < ((jXs X).2.1 : Nat)) (ha2 : jsx X (jw (i + 2)) = a2) {M Mz : jM} (h : s_31 a1 a2 M = some Mz) (kk : jG C X 180 7 (kc + 4) (ks + 24) 2756 [(4, 0), jA 1, jA 166, jA 180, jI i, jN, jN] [] Mz) : jG C X 180 7 kc ks 2130 [(4, 0), jA 1, jA 166, jA 180, jI i, jN, jN] [] M := by
  unfold s_31 at h
  refine x_aloadA_n (pc := 2130) hC dL_law_2130 rfl rfl kk_1 (by decide) ?_
  refine x_aload_n (pc := 2131) hC dL_law_2131 rfl rfl (show (4 : Nat) ≠ 0 by decide) rfl ?_
  refine x_iload (pc := 2132) hC dL_law_2132 rfl ?_
  refine x_iconst (pc := 2134) hC dL_law_2134 ?_
  refine x_iadd (pc := 2135) hC dL_law_2135 ?_
  refine x_sa (pc := 2136) hC hSc hi1 ha1 dL_law_2136 ?_
  refine x_aload_n (pc := 2137) hC dL_law_2137 rfl rfl (show (4 : Nat) ≠ 0 by decide) rfl ?_
  refine x_iload (pc := 2138) hC dL_law_2138 rfl ?_
  refine x_iconst (pc := 2140) hC dL_law_2140 ?_
  refine x_iadd (pc := 2141) hC dL_law_2141 ?_
  refine x_sa (pc := 2142) hC hSc hi2 ha2 dL_law_2142 ?_
  refine x_aloadA_n (pc := 2143) hC dL_law_2143 rfl rfl kk_180 (by decide) ?_
  obtain ⟨v1, M3, e2, h⟩ := jbW_some h
  refine x_cSW (pc := 2144) hC hNs mw_L_241 (ok_L_by (Nat.le_of_ble_eq_true rfl) e2) rfl (Nat.le_of_ble_eq_true rfl) (hro.sub (by omega) (by omega)) (Nat.le_of_ble_eq_true rfl) dL_law_2144 rfl (kc2 := kc + 2) (ks2 := ks + 12) rfl rfl ?_
  refine x_istore (ls2 := [(4, 0), jA 1, jA 166, jA 180, jI i, jI v1, jN]) (pc := 2147) hC dL_law_2147 (by decide) rfl rfl rfl ?_
  refine x_aloadA_n (pc := 2149) hC dL_law_2149 rfl rfl kk_166 (by decide) ?_
  refine x_aload_n (pc := 2150) hC dL_law_2150 rfl rfl (show (4 : Nat) ≠ 0 by decide) rfl ?_
  refine x_iload (pc := 2151) hC dL_law_2151 rfl ?_
  refine x_iconst (pc := 2153) hC dL_law_2153 ?_
  refine x_iadd (pc := 2154) hC dL_law_2154 ?_
  refine x_sa (pc := 2155) hC hSc hi1 ha1 dL_law_2155 ?_
  refine x_aload_n (pc := 2156) hC dL_law_2156 rfl rfl (show (4 : Nat) ≠ 0 by decide) rfl ?_
  refine x_iload (pc := 2157) hC dL_law_2157 rfl ?_
  refine x_iconst (pc := 2159) hC dL_law_2159 ?_
  refine x_iadd (pc := 2160) hC dL_law_2160 ?_
  refine x_sa (pc := 2161) hC hSc hi2 ha2 dL_law_2161 ?_
  obtain ⟨v4, M6, e5, h⟩ := jbW_some h
  refine x_cV (pc := 2162) hC mv_L_243 (ok_X10_by (Nat.le_of_ble_eq_true rfl) e5) rfl (Nat.le_of_ble_eq_true rfl) kk_166 rfl (by decide) (hro.sub (by omega) (by omega)) (Nat.le_of_ble_eq_true rfl) dL_law_2162 rfl ?_
  refine x_istore (ls2 := [(4, 0), jA 1, jA 166, jA 180, jI i, jI v1, jI v4]) (pc := 2165) hC dL_law_2165 (by decide) rfl rfl rfl ?_
  refine x_aloadA_n (pc := 2167) hC dL_law_2167 rfl rfl kk_166 (by decide) ?_
  obtain ⟨v7, e8, h⟩ := jbR_some h
  refine x_cV (pc := 2168) hC mv_L_143 (ok_X10_thrown (Nat.le_of_ble_eq_true rfl) e8) rfl (Nat.le_of_ble_eq_true rfl) kk_166 rfl (by decide) (hro.sub (by omega) (by omega)) (Nat.le_of_ble_eq_true rfl) dL_law_2168 rfl ?_
  refine x_iload (pc := 2171) hC dL_law_2171 rfl ?_
  obtain ⟨hk9, h⟩ := jck_some h
  refine x_icmp_eq (tgt := 2178) (pc := 2173) hC dL_law_2173 (by decide) (fun _ => ?_) (fun hc => absurd hk9 hc)
  refine x_iload (pc := 2178) hC dL_law_2178 rfl ?_
  refine x_if_ne (tgt := 2195) (pc := 2180) hC dL_law_2180 (by decide) (fun hc => ?_) (fun hc => ?_)
  · replace h := jit_neg hc h
    refine x_goto (tgt := 2756) (pc := 2195) hC dL_law_2195 (by decide) ?_
    refine x_kill 5 (ls2 := [(4, 0), jA 1, jA 166, jA 180, jI i, jN, jI v4]) rfl ?_
    refine x_kill 6 (ls2 := [(4, 0), jA 1, jA 166, jA 180, jI i, jN, jN]) rfl ?_
    refine x_widen (kc2 := kc + 4) (ks2 := ks + 24) (by omega) (by omega) ?_
    cases h
    exact kk
  · replace h := jit_pos hc h
    refine x_aloadA_n (pc := 2183) hC dL_law_2183 rfl rfl kk_180 (by decide) ?_
    refine x_iconst (pc := 2184) hC dL_law_2184 ?_
    refine x_lald (pc := 2185) hC kk_180 (by decide) (by decide +kernel) dL_law_2185 ?_
    refine x_iload (pc := 2186) hC dL_law_2186 rfl ?_
    refine x_i2l (pc := 2188) hC dL_law_2188 ?_
    refine x_lcmp (pc := 2189) hC dL_law_2189 ?_
    obtain ⟨hk10, h⟩ := jck_some h
    refine x_if_eq (tgt := 2195) (pc := 2190) hC dL_law_2190 (by decide) (fun _ => ?_) (fun hc => absurd hk10 hc)
    refine x_goto (tgt := 2756) (pc := 2195) hC dL_law_2195 (by decide) ?_
    refine x_kill 5 (ls2 := [(4, 0), jA 1, jA 166, jA 180, jI i, jN, jI v4]) rfl ?_
    refine x_kill 6 (ls2 := [(4, 0), jA 1, jA 166, jA 180, jI i, jN, jN]) rfl ?_
    refine x_widen (kc2 := kc + 4) (ks2 := ks + 24) (by omega) (by omega) ?_
    cases h
    exact kk
set_option maxHeartbeats 4000000 in
theorem st_32 {C : jC} {X : jX} (hC : jOk C X RL cL_law 7 180 60) (hSc : jSc C X) (hNs : jNs C) {kc ks : Nat} (hro : jRo C (kc + 4) (ks + 24)) {i : Int} {a1 : Int} {a2 : Int} (hi1 : 0 ≤ jw (i + 1) ∧ jw (i + 1) < ((jXs X).2.1 : Nat)) (ha1 : jsx X (jw (i + 1)) = a1) (hi2 : 0 ≤ jw (i + 2) ∧ jw (i + 2) < ((jXs X).2.1 : Nat)) (ha2 : jsx X (jw (i + 2)) = a2) {M Mz : jM} (h : s_32 a1 a2 M = some Mz) (kk : jG C X 180 7 (kc + 4) (ks + 24) 2756 [(4, 0), jA 1, jA 166, jA 180, jI i, jN, jN] [] Mz) : jG C X 180 7 kc ks 2198 [(4, 0), jA 1, jA 166, jA 180, jI i, jN, jN] [] M := by
  unfold s_32 at h
  refine x_aloadA_n (pc := 2198) hC dL_law_2198 rfl rfl kk_1 (by decide) ?_
  refine x_aload_n (pc := 2199) hC dL_law_2199 rfl rfl (show (4 : Nat) ≠ 0 by decide) rfl ?_
  refine x_iload (pc := 2200) hC dL_law_2200 rfl ?_
  refine x_iconst (pc := 2202) hC dL_law_2202 ?_
  refine x_iadd (pc := 2203) hC dL_law_2203 ?_
  refine x_sa (pc := 2204) hC hSc hi1 ha1 dL_law_2204 ?_
  refine x_aload_n (pc := 2205) hC dL_law_2205 rfl rfl (show (4 : Nat) ≠ 0 by decide) rfl ?_
  refine x_iload (pc := 2206) hC dL_law_2206 rfl ?_
  refine x_iconst (pc := 2208) hC dL_law_2208 ?_
  refine x_iadd (pc := 2209) hC dL_law_2209 ?_
  refine x_sa (pc := 2210) hC hSc hi2 ha2 dL_law_2210 ?_
  refine x_aloadA_n (pc := 2211) hC dL_law_2211 rfl rfl kk_180 (by decide) ?_
  obtain ⟨v1, M3, e2, h⟩ := jbW_some h
  refine x_cSW (pc := 2212) hC hNs mw_L_244 (ok_L_firsts (Nat.le_of_ble_eq_true rfl) e2) rfl (Nat.le_of_ble_eq_true rfl) (hro.sub (by omega) (by omega)) (Nat.le_of_ble_eq_true rfl) dL_law_2212 rfl (kc2 := kc + 2) (ks2 := ks + 12) rfl rfl ?_
  refine x_istore (ls2 := [(4, 0), jA 1, jA 166, jA 180, jI i, jI v1, jN]) (pc := 2215) hC dL_law_2215 (by decide) rfl rfl rfl ?_
  refine x_aloadA_n (pc := 2217) hC dL_law_2217 rfl rfl kk_166 (by decide) ?_
  refine x_aload_n (pc := 2218) hC dL_law_2218 rfl rfl (show (4 : Nat) ≠ 0 by decide) rfl ?_
  refine x_iload (pc := 2219) hC dL_law_2219 rfl ?_
  refine x_iconst (pc := 2221) hC dL_law_2221 ?_
  refine x_iadd (pc := 2222) hC dL_law_2222 ?_
  refine x_sa (pc := 2223) hC hSc hi1 ha1 dL_law_2223 ?_
  refine x_aload_n (pc := 2224) hC dL_law_2224 rfl rfl (show (4 : Nat) ≠ 0 by decide) rfl ?_
  refine x_iload (pc := 2225) hC dL_law_2225 rfl ?_
  refine x_iconst (pc := 2227) hC dL_law_2227 ?_
  refine x_iadd (pc := 2228) hC dL_law_2228 ?_
  refine x_sa (pc := 2229) hC hSc hi2 ha2 dL_law_2229 ?_
  obtain ⟨v4, M6, e5, h⟩ := jbW_some h
  refine x_cV (pc := 2230) hC mv_L_246 (ok_X10_firsts (Nat.le_of_ble_eq_true rfl) e5) rfl (Nat.le_of_ble_eq_true rfl) kk_166 rfl (by decide) (hro.sub (by omega) (by omega)) (Nat.le_of_ble_eq_true rfl) dL_law_2230 rfl ?_
  refine x_istore (ls2 := [(4, 0), jA 1, jA 166, jA 180, jI i, jI v1, jI v4]) (pc := 2233) hC dL_law_2233 (by decide) rfl rfl rfl ?_
  refine x_aloadA_n (pc := 2235) hC dL_law_2235 rfl rfl kk_166 (by decide) ?_
  obtain ⟨v7, e8, h⟩ := jbR_some h
  refine x_cV (pc := 2236) hC mv_L_143 (ok_X10_thrown (Nat.le_of_ble_eq_true rfl) e8) rfl (Nat.le_of_ble_eq_true rfl) kk_166 rfl (by decide) (hro.sub (by omega) (by omega)) (Nat.le_of_ble_eq_true rfl) dL_law_2236 rfl ?_
  refine x_iload (pc := 2239) hC dL_law_2239 rfl ?_
  obtain ⟨hk9, h⟩ := jck_some h
  refine x_icmp_eq (tgt := 2246) (pc := 2241) hC dL_law_2241 (by decide) (fun _ => ?_) (fun hc => absurd hk9 hc)
  refine x_iload (pc := 2246) hC dL_law_2246 rfl ?_
  refine x_if_ne (tgt := 2263) (pc := 2248) hC dL_law_2248 (by decide) (fun hc => ?_) (fun hc => ?_)
  · replace h := jit_neg hc h
    refine x_goto (tgt := 2756) (pc := 2263) hC dL_law_2263 (by decide) ?_
    refine x_kill 5 (ls2 := [(4, 0), jA 1, jA 166, jA 180, jI i, jN, jI v4]) rfl ?_
    refine x_kill 6 (ls2 := [(4, 0), jA 1, jA 166, jA 180, jI i, jN, jN]) rfl ?_
    refine x_widen (kc2 := kc + 4) (ks2 := ks + 24) (by omega) (by omega) ?_
    cases h
    exact kk
  · replace h := jit_pos hc h
    refine x_aloadA_n (pc := 2251) hC dL_law_2251 rfl rfl kk_180 (by decide) ?_
    refine x_iconst (pc := 2252) hC dL_law_2252 ?_
    refine x_lald (pc := 2253) hC kk_180 (by decide) (by decide +kernel) dL_law_2253 ?_
    refine x_iload (pc := 2254) hC dL_law_2254 rfl ?_
    refine x_i2l (pc := 2256) hC dL_law_2256 ?_
    refine x_lcmp (pc := 2257) hC dL_law_2257 ?_
    obtain ⟨hk10, h⟩ := jck_some h
    refine x_if_eq (tgt := 2263) (pc := 2258) hC dL_law_2258 (by decide) (fun _ => ?_) (fun hc => absurd hk10 hc)
    refine x_goto (tgt := 2756) (pc := 2263) hC dL_law_2263 (by decide) ?_
    refine x_kill 5 (ls2 := [(4, 0), jA 1, jA 166, jA 180, jI i, jN, jI v4]) rfl ?_
    refine x_kill 6 (ls2 := [(4, 0), jA 1, jA 166, jA 180, jI i, jN, jN]) rfl ?_
    refine x_widen (kc2 := kc + 4) (ks2 := ks + 24) (by omega) (by omega) ?_
    cases h
    exact kk
set_option maxHeartbeats 4000000 in
theorem st_33 {C : jC} {X : jX} (hC : jOk C X RL cL_law 7 180 60) (hSc : jSc C X) (hNs : jNs C) {kc ks : Nat} (hro : jRo C (kc + 4) (ks + 24)) {i : Int} {a1 : Int} {a2 : Int} (hi1 : 0 ≤ jw (i + 1) ∧ jw (i + 1) < ((jXs X).2.1 : Nat)) (ha1 : jsx X (jw (i + 1)) = a1) (hi2 : 0 ≤ jw (i + 2) ∧ jw (i + 2) < ((jXs X).2.1 : Nat)) (ha2 : jsx X (jw (i + 2)) = a2) {M Mz : jM} (h : s_33 a1 a2 M = some Mz) (kk : jG C X 180 7 (kc + 4) (ks + 24) 2756 [(4, 0), jA 1, jA 166, jA 180, jI i, jN, jN] [] Mz) : jG C X 180 7 kc ks 2266 [(4, 0), jA 1, jA 166, jA 180, jI i, jN, jN] [] M := by
  unfold s_33 at h
  refine x_aloadA_n (pc := 2266) hC dL_law_2266 rfl rfl kk_1 (by decide) ?_
  refine x_aload_n (pc := 2267) hC dL_law_2267 rfl rfl (show (4 : Nat) ≠ 0 by decide) rfl ?_
  refine x_iload (pc := 2268) hC dL_law_2268 rfl ?_
  refine x_iconst (pc := 2270) hC dL_law_2270 ?_
  refine x_iadd (pc := 2271) hC dL_law_2271 ?_
  refine x_sa (pc := 2272) hC hSc hi1 ha1 dL_law_2272 ?_
  refine x_aload_n (pc := 2273) hC dL_law_2273 rfl rfl (show (4 : Nat) ≠ 0 by decide) rfl ?_
  refine x_iload (pc := 2274) hC dL_law_2274 rfl ?_
  refine x_iconst (pc := 2276) hC dL_law_2276 ?_
  refine x_iadd (pc := 2277) hC dL_law_2277 ?_
  refine x_sa (pc := 2278) hC hSc hi2 ha2 dL_law_2278 ?_
  refine x_aloadA_n (pc := 2279) hC dL_law_2279 rfl rfl kk_180 (by decide) ?_
  obtain ⟨v1, M3, e2, h⟩ := jbW_some h
  refine x_cSW (pc := 2280) hC hNs mw_L_247 (ok_L_needed (Nat.le_of_ble_eq_true rfl) e2) rfl (Nat.le_of_ble_eq_true rfl) (hro.sub (by omega) (by omega)) (Nat.le_of_ble_eq_true rfl) dL_law_2280 rfl (kc2 := kc + 3) (ks2 := ks + 18) rfl rfl ?_
  refine x_istore (ls2 := [(4, 0), jA 1, jA 166, jA 180, jI i, jI v1, jN]) (pc := 2283) hC dL_law_2283 (by decide) rfl rfl rfl ?_
  refine x_aloadA_n (pc := 2285) hC dL_law_2285 rfl rfl kk_166 (by decide) ?_
  refine x_aload_n (pc := 2286) hC dL_law_2286 rfl rfl (show (4 : Nat) ≠ 0 by decide) rfl ?_
  refine x_iload (pc := 2287) hC dL_law_2287 rfl ?_
  refine x_iconst (pc := 2289) hC dL_law_2289 ?_
  refine x_iadd (pc := 2290) hC dL_law_2290 ?_
  refine x_sa (pc := 2291) hC hSc hi1 ha1 dL_law_2291 ?_
  refine x_aload_n (pc := 2292) hC dL_law_2292 rfl rfl (show (4 : Nat) ≠ 0 by decide) rfl ?_
  refine x_iload (pc := 2293) hC dL_law_2293 rfl ?_
  refine x_iconst (pc := 2295) hC dL_law_2295 ?_
  refine x_iadd (pc := 2296) hC dL_law_2296 ?_
  refine x_sa (pc := 2297) hC hSc hi2 ha2 dL_law_2297 ?_
  obtain ⟨v4, M6, e5, h⟩ := jbW_some h
  refine x_cV (pc := 2298) hC mv_L_249 (ok_X10_needed (Nat.le_of_ble_eq_true rfl) e5) rfl (Nat.le_of_ble_eq_true rfl) kk_166 rfl (by decide) (hro.sub (by omega) (by omega)) (Nat.le_of_ble_eq_true rfl) dL_law_2298 rfl ?_
  refine x_istore (ls2 := [(4, 0), jA 1, jA 166, jA 180, jI i, jI v1, jI v4]) (pc := 2301) hC dL_law_2301 (by decide) rfl rfl rfl ?_
  refine x_aloadA_n (pc := 2303) hC dL_law_2303 rfl rfl kk_166 (by decide) ?_
  obtain ⟨v7, e8, h⟩ := jbR_some h
  refine x_cV (pc := 2304) hC mv_L_143 (ok_X10_thrown (Nat.le_of_ble_eq_true rfl) e8) rfl (Nat.le_of_ble_eq_true rfl) kk_166 rfl (by decide) (hro.sub (by omega) (by omega)) (Nat.le_of_ble_eq_true rfl) dL_law_2304 rfl ?_
  refine x_iload (pc := 2307) hC dL_law_2307 rfl ?_
  obtain ⟨hk9, h⟩ := jck_some h
  refine x_icmp_eq (tgt := 2314) (pc := 2309) hC dL_law_2309 (by decide) (fun _ => ?_) (fun hc => absurd hk9 hc)
  refine x_iload (pc := 2314) hC dL_law_2314 rfl ?_
  refine x_if_ne (tgt := 2331) (pc := 2316) hC dL_law_2316 (by decide) (fun hc => ?_) (fun hc => ?_)
  · replace h := jit_neg hc h
    refine x_goto (tgt := 2756) (pc := 2331) hC dL_law_2331 (by decide) ?_
    refine x_kill 5 (ls2 := [(4, 0), jA 1, jA 166, jA 180, jI i, jN, jI v4]) rfl ?_
    refine x_kill 6 (ls2 := [(4, 0), jA 1, jA 166, jA 180, jI i, jN, jN]) rfl ?_
    refine x_widen (kc2 := kc + 4) (ks2 := ks + 24) (by omega) (by omega) ?_
    cases h
    exact kk
  · replace h := jit_pos hc h
    refine x_aloadA_n (pc := 2319) hC dL_law_2319 rfl rfl kk_180 (by decide) ?_
    refine x_iconst (pc := 2320) hC dL_law_2320 ?_
    refine x_lald (pc := 2321) hC kk_180 (by decide) (by decide +kernel) dL_law_2321 ?_
    refine x_iload (pc := 2322) hC dL_law_2322 rfl ?_
    refine x_i2l (pc := 2324) hC dL_law_2324 ?_
    refine x_lcmp (pc := 2325) hC dL_law_2325 ?_
    obtain ⟨hk10, h⟩ := jck_some h
    refine x_if_eq (tgt := 2331) (pc := 2326) hC dL_law_2326 (by decide) (fun _ => ?_) (fun hc => absurd hk10 hc)
    refine x_goto (tgt := 2756) (pc := 2331) hC dL_law_2331 (by decide) ?_
    refine x_kill 5 (ls2 := [(4, 0), jA 1, jA 166, jA 180, jI i, jN, jI v4]) rfl ?_
    refine x_kill 6 (ls2 := [(4, 0), jA 1, jA 166, jA 180, jI i, jN, jN]) rfl ?_
    refine x_widen (kc2 := kc + 4) (ks2 := ks + 24) (by omega) (by omega) ?_
    cases h
    exact kk
set_option maxHeartbeats 4000000 in
theorem st_34 {C : jC} {X : jX} (hC : jOk C X RL cL_law 7 180 60) (hSc : jSc C X) (hNs : jNs C) {kc ks : Nat} (hro : jRo C (kc + 4) (ks + 24)) {i : Int} {a1 : Int} {a2 : Int} {a3 : Int} (hi1 : 0 ≤ jw (i + 1) ∧ jw (i + 1) < ((jXs X).2.1 : Nat)) (ha1 : jsx X (jw (i + 1)) = a1) (hi2 : 0 ≤ jw (i + 2) ∧ jw (i + 2) < ((jXs X).2.1 : Nat)) (ha2 : jsx X (jw (i + 2)) = a2) (hi3 : 0 ≤ jw (i + 3) ∧ jw (i + 3) < ((jXs X).2.1 : Nat)) (ha3 : jsx X (jw (i + 3)) = a3) {M Mz : jM} (h : s_34 a1 a2 a3 M = some Mz) (kk : jG C X 180 7 (kc + 4) (ks + 24) 2756 [(4, 0), jA 1, jA 166, jA 180, jI i, jN, jN] [] Mz) : jG C X 180 7 kc ks 2334 [(4, 0), jA 1, jA 166, jA 180, jI i, jN, jN] [] M := by
  unfold s_34 at h
  refine x_aloadA_n (pc := 2334) hC dL_law_2334 rfl rfl kk_1 (by decide) ?_
  refine x_aload_n (pc := 2335) hC dL_law_2335 rfl rfl (show (4 : Nat) ≠ 0 by decide) rfl ?_
  refine x_iload (pc := 2336) hC dL_law_2336 rfl ?_
  refine x_iconst (pc := 2338) hC dL_law_2338 ?_
  refine x_iadd (pc := 2339) hC dL_law_2339 ?_
  refine x_sa (pc := 2340) hC hSc hi1 ha1 dL_law_2340 ?_
  refine x_aload_n (pc := 2341) hC dL_law_2341 rfl rfl (show (4 : Nat) ≠ 0 by decide) rfl ?_
  refine x_iload (pc := 2342) hC dL_law_2342 rfl ?_
  refine x_iconst (pc := 2344) hC dL_law_2344 ?_
  refine x_iadd (pc := 2345) hC dL_law_2345 ?_
  refine x_sa (pc := 2346) hC hSc hi2 ha2 dL_law_2346 ?_
  refine x_aload_n (pc := 2347) hC dL_law_2347 rfl rfl (show (4 : Nat) ≠ 0 by decide) rfl ?_
  refine x_iload (pc := 2348) hC dL_law_2348 rfl ?_
  refine x_iconst (pc := 2350) hC dL_law_2350 ?_
  refine x_iadd (pc := 2351) hC dL_law_2351 ?_
  refine x_sa (pc := 2352) hC hSc hi3 ha3 dL_law_2352 ?_
  refine x_aloadA_n (pc := 2353) hC dL_law_2353 rfl rfl kk_180 (by decide) ?_
  obtain ⟨v1, M3, e2, h⟩ := jbW_some h
  refine x_cSW (pc := 2354) hC hNs mw_L_250 (ok_L_raise (Nat.le_of_ble_eq_true rfl) e2) rfl (Nat.le_of_ble_eq_true rfl) (hro.sub (by omega) (by omega)) (Nat.le_of_ble_eq_true rfl) dL_law_2354 rfl (kc2 := kc + 4) (ks2 := ks + 24) rfl rfl ?_
  refine x_istore (ls2 := [(4, 0), jA 1, jA 166, jA 180, jI i, jI v1, jN]) (pc := 2357) hC dL_law_2357 (by decide) rfl rfl rfl ?_
  refine x_aloadA_n (pc := 2359) hC dL_law_2359 rfl rfl kk_166 (by decide) ?_
  refine x_aload_n (pc := 2360) hC dL_law_2360 rfl rfl (show (4 : Nat) ≠ 0 by decide) rfl ?_
  refine x_iload (pc := 2361) hC dL_law_2361 rfl ?_
  refine x_iconst (pc := 2363) hC dL_law_2363 ?_
  refine x_iadd (pc := 2364) hC dL_law_2364 ?_
  refine x_sa (pc := 2365) hC hSc hi1 ha1 dL_law_2365 ?_
  refine x_aload_n (pc := 2366) hC dL_law_2366 rfl rfl (show (4 : Nat) ≠ 0 by decide) rfl ?_
  refine x_iload (pc := 2367) hC dL_law_2367 rfl ?_
  refine x_iconst (pc := 2369) hC dL_law_2369 ?_
  refine x_iadd (pc := 2370) hC dL_law_2370 ?_
  refine x_sa (pc := 2371) hC hSc hi2 ha2 dL_law_2371 ?_
  refine x_aload_n (pc := 2372) hC dL_law_2372 rfl rfl (show (4 : Nat) ≠ 0 by decide) rfl ?_
  refine x_iload (pc := 2373) hC dL_law_2373 rfl ?_
  refine x_iconst (pc := 2375) hC dL_law_2375 ?_
  refine x_iadd (pc := 2376) hC dL_law_2376 ?_
  refine x_sa (pc := 2377) hC hSc hi3 ha3 dL_law_2377 ?_
  obtain ⟨v4, M6, e5, h⟩ := jbW_some h
  refine x_cV (pc := 2378) hC mv_L_252 (ok_X10_raise (Nat.le_of_ble_eq_true rfl) e5) rfl (Nat.le_of_ble_eq_true rfl) kk_166 rfl (by decide) (hro.sub (by omega) (by omega)) (Nat.le_of_ble_eq_true rfl) dL_law_2378 rfl ?_
  refine x_istore (ls2 := [(4, 0), jA 1, jA 166, jA 180, jI i, jI v1, jI v4]) (pc := 2381) hC dL_law_2381 (by decide) rfl rfl rfl ?_
  refine x_aloadA_n (pc := 2383) hC dL_law_2383 rfl rfl kk_166 (by decide) ?_
  obtain ⟨v7, e8, h⟩ := jbR_some h
  refine x_cV (pc := 2384) hC mv_L_143 (ok_X10_thrown (Nat.le_of_ble_eq_true rfl) e8) rfl (Nat.le_of_ble_eq_true rfl) kk_166 rfl (by decide) (hro.sub (by omega) (by omega)) (Nat.le_of_ble_eq_true rfl) dL_law_2384 rfl ?_
  refine x_iload (pc := 2387) hC dL_law_2387 rfl ?_
  obtain ⟨hk9, h⟩ := jck_some h
  refine x_icmp_eq (tgt := 2394) (pc := 2389) hC dL_law_2389 (by decide) (fun _ => ?_) (fun hc => absurd hk9 hc)
  refine x_iload (pc := 2394) hC dL_law_2394 rfl ?_
  refine x_if_ne (tgt := 2411) (pc := 2396) hC dL_law_2396 (by decide) (fun hc => ?_) (fun hc => ?_)
  · replace h := jit_neg hc h
    refine x_goto (tgt := 2756) (pc := 2411) hC dL_law_2411 (by decide) ?_
    refine x_kill 5 (ls2 := [(4, 0), jA 1, jA 166, jA 180, jI i, jN, jI v4]) rfl ?_
    refine x_kill 6 (ls2 := [(4, 0), jA 1, jA 166, jA 180, jI i, jN, jN]) rfl ?_
    refine x_widen (kc2 := kc + 4) (ks2 := ks + 24) (by omega) (by omega) ?_
    cases h
    exact kk
  · replace h := jit_pos hc h
    refine x_aloadA_n (pc := 2399) hC dL_law_2399 rfl rfl kk_180 (by decide) ?_
    refine x_iconst (pc := 2400) hC dL_law_2400 ?_
    refine x_lald (pc := 2401) hC kk_180 (by decide) (by decide +kernel) dL_law_2401 ?_
    refine x_iload (pc := 2402) hC dL_law_2402 rfl ?_
    refine x_i2l (pc := 2404) hC dL_law_2404 ?_
    refine x_lcmp (pc := 2405) hC dL_law_2405 ?_
    obtain ⟨hk10, h⟩ := jck_some h
    refine x_if_eq (tgt := 2411) (pc := 2406) hC dL_law_2406 (by decide) (fun _ => ?_) (fun hc => absurd hk10 hc)
    refine x_goto (tgt := 2756) (pc := 2411) hC dL_law_2411 (by decide) ?_
    refine x_kill 5 (ls2 := [(4, 0), jA 1, jA 166, jA 180, jI i, jN, jI v4]) rfl ?_
    refine x_kill 6 (ls2 := [(4, 0), jA 1, jA 166, jA 180, jI i, jN, jN]) rfl ?_
    refine x_widen (kc2 := kc + 4) (ks2 := ks + 24) (by omega) (by omega) ?_
    cases h
    exact kk
set_option maxHeartbeats 4000000 in
theorem st_35 {C : jC} {X : jX} (hC : jOk C X RL cL_law 7 180 60) (hSc : jSc C X) (hNs : jNs C) {kc ks : Nat} (hro : jRo C (kc + 4) (ks + 24)) {i : Int} {a1 : Int} {a2 : Int} (hi1 : 0 ≤ jw (i + 1) ∧ jw (i + 1) < ((jXs X).2.1 : Nat)) (ha1 : jsx X (jw (i + 1)) = a1) (hi2 : 0 ≤ jw (i + 2) ∧ jw (i + 2) < ((jXs X).2.1 : Nat)) (ha2 : jsx X (jw (i + 2)) = a2) {M Mz : jM} (h : s_35 a1 a2 M = some Mz) (kk : jG C X 180 7 (kc + 4) (ks + 24) 2756 [(4, 0), jA 1, jA 166, jA 180, jI i, jN, jN] [] Mz) : jG C X 180 7 kc ks 2414 [(4, 0), jA 1, jA 166, jA 180, jI i, jN, jN] [] M := by
  unfold s_35 at h
  refine x_aloadA_n (pc := 2414) hC dL_law_2414 rfl rfl kk_1 (by decide) ?_
  refine x_aload_n (pc := 2415) hC dL_law_2415 rfl rfl (show (4 : Nat) ≠ 0 by decide) rfl ?_
  refine x_iload (pc := 2416) hC dL_law_2416 rfl ?_
  refine x_iconst (pc := 2418) hC dL_law_2418 ?_
  refine x_iadd (pc := 2419) hC dL_law_2419 ?_
  refine x_sa (pc := 2420) hC hSc hi1 ha1 dL_law_2420 ?_
  refine x_aload_n (pc := 2421) hC dL_law_2421 rfl rfl (show (4 : Nat) ≠ 0 by decide) rfl ?_
  refine x_iload (pc := 2422) hC dL_law_2422 rfl ?_
  refine x_iconst (pc := 2424) hC dL_law_2424 ?_
  refine x_iadd (pc := 2425) hC dL_law_2425 ?_
  refine x_sa (pc := 2426) hC hSc hi2 ha2 dL_law_2426 ?_
  refine x_aloadA_n (pc := 2427) hC dL_law_2427 rfl rfl kk_180 (by decide) ?_
  obtain ⟨v1, M3, e2, h⟩ := jbW_some h
  refine x_cSW (pc := 2428) hC hNs mw_L_253 (ok_L_prime (Nat.le_of_ble_eq_true rfl) e2) rfl (Nat.le_of_ble_eq_true rfl) (hro.sub (by omega) (by omega)) (Nat.le_of_ble_eq_true rfl) dL_law_2428 rfl (kc2 := kc + 2) (ks2 := ks + 12) rfl rfl ?_
  refine x_istore (ls2 := [(4, 0), jA 1, jA 166, jA 180, jI i, jI v1, jN]) (pc := 2431) hC dL_law_2431 (by decide) rfl rfl rfl ?_
  refine x_aloadA_n (pc := 2433) hC dL_law_2433 rfl rfl kk_166 (by decide) ?_
  refine x_aload_n (pc := 2434) hC dL_law_2434 rfl rfl (show (4 : Nat) ≠ 0 by decide) rfl ?_
  refine x_iload (pc := 2435) hC dL_law_2435 rfl ?_
  refine x_iconst (pc := 2437) hC dL_law_2437 ?_
  refine x_iadd (pc := 2438) hC dL_law_2438 ?_
  refine x_sa (pc := 2439) hC hSc hi1 ha1 dL_law_2439 ?_
  refine x_aload_n (pc := 2440) hC dL_law_2440 rfl rfl (show (4 : Nat) ≠ 0 by decide) rfl ?_
  refine x_iload (pc := 2441) hC dL_law_2441 rfl ?_
  refine x_iconst (pc := 2443) hC dL_law_2443 ?_
  refine x_iadd (pc := 2444) hC dL_law_2444 ?_
  refine x_sa (pc := 2445) hC hSc hi2 ha2 dL_law_2445 ?_
  obtain ⟨v4, M6, e5, h⟩ := jbW_some h
  refine x_cV (pc := 2446) hC mv_L_255 (ok_X10_prime (Nat.le_of_ble_eq_true rfl) e5) rfl (Nat.le_of_ble_eq_true rfl) kk_166 rfl (by decide) (hro.sub (by omega) (by omega)) (Nat.le_of_ble_eq_true rfl) dL_law_2446 rfl ?_
  refine x_istore (ls2 := [(4, 0), jA 1, jA 166, jA 180, jI i, jI v1, jI v4]) (pc := 2449) hC dL_law_2449 (by decide) rfl rfl rfl ?_
  refine x_aloadA_n (pc := 2451) hC dL_law_2451 rfl rfl kk_166 (by decide) ?_
  obtain ⟨v7, e8, h⟩ := jbR_some h
  refine x_cV (pc := 2452) hC mv_L_143 (ok_X10_thrown (Nat.le_of_ble_eq_true rfl) e8) rfl (Nat.le_of_ble_eq_true rfl) kk_166 rfl (by decide) (hro.sub (by omega) (by omega)) (Nat.le_of_ble_eq_true rfl) dL_law_2452 rfl ?_
  refine x_iload (pc := 2455) hC dL_law_2455 rfl ?_
  obtain ⟨hk9, h⟩ := jck_some h
  refine x_icmp_eq (tgt := 2462) (pc := 2457) hC dL_law_2457 (by decide) (fun _ => ?_) (fun hc => absurd hk9 hc)
  refine x_iload (pc := 2462) hC dL_law_2462 rfl ?_
  refine x_if_ne (tgt := 2479) (pc := 2464) hC dL_law_2464 (by decide) (fun hc => ?_) (fun hc => ?_)
  · replace h := jit_neg hc h
    refine x_goto (tgt := 2756) (pc := 2479) hC dL_law_2479 (by decide) ?_
    refine x_kill 5 (ls2 := [(4, 0), jA 1, jA 166, jA 180, jI i, jN, jI v4]) rfl ?_
    refine x_kill 6 (ls2 := [(4, 0), jA 1, jA 166, jA 180, jI i, jN, jN]) rfl ?_
    refine x_widen (kc2 := kc + 4) (ks2 := ks + 24) (by omega) (by omega) ?_
    cases h
    exact kk
  · replace h := jit_pos hc h
    refine x_aloadA_n (pc := 2467) hC dL_law_2467 rfl rfl kk_180 (by decide) ?_
    refine x_iconst (pc := 2468) hC dL_law_2468 ?_
    refine x_lald (pc := 2469) hC kk_180 (by decide) (by decide +kernel) dL_law_2469 ?_
    refine x_iload (pc := 2470) hC dL_law_2470 rfl ?_
    refine x_i2l (pc := 2472) hC dL_law_2472 ?_
    refine x_lcmp (pc := 2473) hC dL_law_2473 ?_
    obtain ⟨hk10, h⟩ := jck_some h
    refine x_if_eq (tgt := 2479) (pc := 2474) hC dL_law_2474 (by decide) (fun _ => ?_) (fun hc => absurd hk10 hc)
    refine x_goto (tgt := 2756) (pc := 2479) hC dL_law_2479 (by decide) ?_
    refine x_kill 5 (ls2 := [(4, 0), jA 1, jA 166, jA 180, jI i, jN, jI v4]) rfl ?_
    refine x_kill 6 (ls2 := [(4, 0), jA 1, jA 166, jA 180, jI i, jN, jN]) rfl ?_
    refine x_widen (kc2 := kc + 4) (ks2 := ks + 24) (by omega) (by omega) ?_
    cases h
    exact kk
set_option maxHeartbeats 4000000 in
theorem st_36 {C : jC} {X : jX} (hC : jOk C X RL cL_law 7 180 60) (hSc : jSc C X) (hNs : jNs C) {kc ks : Nat} (hro : jRo C (kc + 4) (ks + 24)) {i : Int} {a1 : Int} (hi1 : 0 ≤ jw (i + 1) ∧ jw (i + 1) < ((jXs X).2.1 : Nat)) (ha1 : jsx X (jw (i + 1)) = a1) {M Mz : jM} (h : s_36 a1 M = some Mz) (kk : jG C X 180 7 (kc + 4) (ks + 24) 2756 [(4, 0), jA 1, jA 166, jA 180, jI i, jN, jN] [] Mz) : jG C X 180 7 kc ks 2482 [(4, 0), jA 1, jA 166, jA 180, jI i, jN, jN] [] M := by
  unfold s_36 at h
  refine x_aloadA_n (pc := 2482) hC dL_law_2482 rfl rfl kk_1 (by decide) ?_
  refine x_aload_n (pc := 2483) hC dL_law_2483 rfl rfl (show (4 : Nat) ≠ 0 by decide) rfl ?_
  refine x_iload (pc := 2484) hC dL_law_2484 rfl ?_
  refine x_iconst (pc := 2486) hC dL_law_2486 ?_
  refine x_iadd (pc := 2487) hC dL_law_2487 ?_
  refine x_sa (pc := 2488) hC hSc hi1 ha1 dL_law_2488 ?_
  refine x_aloadA_n (pc := 2489) hC dL_law_2489 rfl rfl kk_180 (by decide) ?_
  obtain ⟨v1, M3, e2, h⟩ := jbW_some h
  refine x_cSW (pc := 2490) hC hNs mw_L_256 (ok_L_led (Nat.le_of_ble_eq_true rfl) e2) rfl (Nat.le_of_ble_eq_true rfl) (hro.sub (by omega) (by omega)) (Nat.le_of_ble_eq_true rfl) dL_law_2490 rfl (kc2 := kc + 1) (ks2 := ks + 6) rfl rfl ?_
  refine x_istore (ls2 := [(4, 0), jA 1, jA 166, jA 180, jI i, jI v1, jN]) (pc := 2493) hC dL_law_2493 (by decide) rfl rfl rfl ?_
  refine x_aloadA_n (pc := 2495) hC dL_law_2495 rfl rfl kk_166 (by decide) ?_
  refine x_aload_n (pc := 2496) hC dL_law_2496 rfl rfl (show (4 : Nat) ≠ 0 by decide) rfl ?_
  refine x_iload (pc := 2497) hC dL_law_2497 rfl ?_
  refine x_iconst (pc := 2499) hC dL_law_2499 ?_
  refine x_iadd (pc := 2500) hC dL_law_2500 ?_
  refine x_sa (pc := 2501) hC hSc hi1 ha1 dL_law_2501 ?_
  obtain ⟨v4, M6, e5, h⟩ := jbW_some h
  refine x_cV (pc := 2502) hC mv_L_258 (ok_X10_led (Nat.le_of_ble_eq_true rfl) e5) rfl (Nat.le_of_ble_eq_true rfl) kk_166 rfl (by decide) (hro.sub (by omega) (by omega)) (Nat.le_of_ble_eq_true rfl) dL_law_2502 rfl ?_
  refine x_istore (ls2 := [(4, 0), jA 1, jA 166, jA 180, jI i, jI v1, jI v4]) (pc := 2505) hC dL_law_2505 (by decide) rfl rfl rfl ?_
  refine x_aloadA_n (pc := 2507) hC dL_law_2507 rfl rfl kk_166 (by decide) ?_
  obtain ⟨v7, e8, h⟩ := jbR_some h
  refine x_cV (pc := 2508) hC mv_L_143 (ok_X10_thrown (Nat.le_of_ble_eq_true rfl) e8) rfl (Nat.le_of_ble_eq_true rfl) kk_166 rfl (by decide) (hro.sub (by omega) (by omega)) (Nat.le_of_ble_eq_true rfl) dL_law_2508 rfl ?_
  refine x_iload (pc := 2511) hC dL_law_2511 rfl ?_
  obtain ⟨hk9, h⟩ := jck_some h
  refine x_icmp_eq (tgt := 2518) (pc := 2513) hC dL_law_2513 (by decide) (fun _ => ?_) (fun hc => absurd hk9 hc)
  refine x_iload (pc := 2518) hC dL_law_2518 rfl ?_
  refine x_if_ne (tgt := 2535) (pc := 2520) hC dL_law_2520 (by decide) (fun hc => ?_) (fun hc => ?_)
  · replace h := jit_neg hc h
    refine x_goto (tgt := 2756) (pc := 2535) hC dL_law_2535 (by decide) ?_
    refine x_kill 5 (ls2 := [(4, 0), jA 1, jA 166, jA 180, jI i, jN, jI v4]) rfl ?_
    refine x_kill 6 (ls2 := [(4, 0), jA 1, jA 166, jA 180, jI i, jN, jN]) rfl ?_
    refine x_widen (kc2 := kc + 4) (ks2 := ks + 24) (by omega) (by omega) ?_
    cases h
    exact kk
  · replace h := jit_pos hc h
    refine x_aloadA_n (pc := 2523) hC dL_law_2523 rfl rfl kk_180 (by decide) ?_
    refine x_iconst (pc := 2524) hC dL_law_2524 ?_
    refine x_lald (pc := 2525) hC kk_180 (by decide) (by decide +kernel) dL_law_2525 ?_
    refine x_iload (pc := 2526) hC dL_law_2526 rfl ?_
    refine x_i2l (pc := 2528) hC dL_law_2528 ?_
    refine x_lcmp (pc := 2529) hC dL_law_2529 ?_
    obtain ⟨hk10, h⟩ := jck_some h
    refine x_if_eq (tgt := 2535) (pc := 2530) hC dL_law_2530 (by decide) (fun _ => ?_) (fun hc => absurd hk10 hc)
    refine x_goto (tgt := 2756) (pc := 2535) hC dL_law_2535 (by decide) ?_
    refine x_kill 5 (ls2 := [(4, 0), jA 1, jA 166, jA 180, jI i, jN, jI v4]) rfl ?_
    refine x_kill 6 (ls2 := [(4, 0), jA 1, jA 166, jA 180, jI i, jN, jN]) rfl ?_
    refine x_widen (kc2 := kc + 4) (ks2 := ks + 24) (by omega) (by omega) ?_
    cases h
    exact kk
set_option maxHeartbeats 4000000 in
theorem st_37 {C : jC} {X : jX} (hC : jOk C X RL cL_law 7 180 60) (hSc : jSc C X) (hNs : jNs C) {kc ks : Nat} (hro : jRo C (kc + 4) (ks + 24)) {i : Int} {a1 : Int} (hi1 : 0 ≤ jw (i + 1) ∧ jw (i + 1) < ((jXs X).2.1 : Nat)) (ha1 : jsx X (jw (i + 1)) = a1) {M Mz : jM} (h : s_37 a1 M = some Mz) (kk : jG C X 180 7 (kc + 4) (ks + 24) 2756 [(4, 0), jA 1, jA 166, jA 180, jI i, jN, jN] [] Mz) : jG C X 180 7 kc ks 2538 [(4, 0), jA 1, jA 166, jA 180, jI i, jN, jN] [] M := by
  unfold s_37 at h
  refine x_aloadA_n (pc := 2538) hC dL_law_2538 rfl rfl kk_1 (by decide) ?_
  refine x_aload_n (pc := 2539) hC dL_law_2539 rfl rfl (show (4 : Nat) ≠ 0 by decide) rfl ?_
  refine x_iload (pc := 2540) hC dL_law_2540 rfl ?_
  refine x_iconst (pc := 2542) hC dL_law_2542 ?_
  refine x_iadd (pc := 2543) hC dL_law_2543 ?_
  refine x_sa (pc := 2544) hC hSc hi1 ha1 dL_law_2544 ?_
  refine x_aloadA_n (pc := 2545) hC dL_law_2545 rfl rfl kk_180 (by decide) ?_
  obtain ⟨v1, M3, e2, h⟩ := jbW_some h
  refine x_cSW (pc := 2546) hC hNs mw_L_259 (ok_L_doubt (Nat.le_of_ble_eq_true rfl) e2) rfl (Nat.le_of_ble_eq_true rfl) (hro.sub (by omega) (by omega)) (Nat.le_of_ble_eq_true rfl) dL_law_2546 rfl (kc2 := kc + 1) (ks2 := ks + 6) rfl rfl ?_
  refine x_istore (ls2 := [(4, 0), jA 1, jA 166, jA 180, jI i, jI v1, jN]) (pc := 2549) hC dL_law_2549 (by decide) rfl rfl rfl ?_
  refine x_aloadA_n (pc := 2551) hC dL_law_2551 rfl rfl kk_166 (by decide) ?_
  refine x_aload_n (pc := 2552) hC dL_law_2552 rfl rfl (show (4 : Nat) ≠ 0 by decide) rfl ?_
  refine x_iload (pc := 2553) hC dL_law_2553 rfl ?_
  refine x_iconst (pc := 2555) hC dL_law_2555 ?_
  refine x_iadd (pc := 2556) hC dL_law_2556 ?_
  refine x_sa (pc := 2557) hC hSc hi1 ha1 dL_law_2557 ?_
  obtain ⟨v4, M6, e5, h⟩ := jbW_some h
  refine x_cV (pc := 2558) hC mv_L_261 (ok_X10_doubt (Nat.le_of_ble_eq_true rfl) e5) rfl (Nat.le_of_ble_eq_true rfl) kk_166 rfl (by decide) (hro.sub (by omega) (by omega)) (Nat.le_of_ble_eq_true rfl) dL_law_2558 rfl ?_
  refine x_istore (ls2 := [(4, 0), jA 1, jA 166, jA 180, jI i, jI v1, jI v4]) (pc := 2561) hC dL_law_2561 (by decide) rfl rfl rfl ?_
  refine x_aloadA_n (pc := 2563) hC dL_law_2563 rfl rfl kk_166 (by decide) ?_
  obtain ⟨v7, e8, h⟩ := jbR_some h
  refine x_cV (pc := 2564) hC mv_L_143 (ok_X10_thrown (Nat.le_of_ble_eq_true rfl) e8) rfl (Nat.le_of_ble_eq_true rfl) kk_166 rfl (by decide) (hro.sub (by omega) (by omega)) (Nat.le_of_ble_eq_true rfl) dL_law_2564 rfl ?_
  refine x_iload (pc := 2567) hC dL_law_2567 rfl ?_
  obtain ⟨hk9, h⟩ := jck_some h
  refine x_icmp_eq (tgt := 2574) (pc := 2569) hC dL_law_2569 (by decide) (fun _ => ?_) (fun hc => absurd hk9 hc)
  refine x_iload (pc := 2574) hC dL_law_2574 rfl ?_
  refine x_if_ne (tgt := 2591) (pc := 2576) hC dL_law_2576 (by decide) (fun hc => ?_) (fun hc => ?_)
  · replace h := jit_neg hc h
    refine x_goto (tgt := 2756) (pc := 2591) hC dL_law_2591 (by decide) ?_
    refine x_kill 5 (ls2 := [(4, 0), jA 1, jA 166, jA 180, jI i, jN, jI v4]) rfl ?_
    refine x_kill 6 (ls2 := [(4, 0), jA 1, jA 166, jA 180, jI i, jN, jN]) rfl ?_
    refine x_widen (kc2 := kc + 4) (ks2 := ks + 24) (by omega) (by omega) ?_
    cases h
    exact kk
  · replace h := jit_pos hc h
    refine x_aloadA_n (pc := 2579) hC dL_law_2579 rfl rfl kk_180 (by decide) ?_
    refine x_iconst (pc := 2580) hC dL_law_2580 ?_
    refine x_lald (pc := 2581) hC kk_180 (by decide) (by decide +kernel) dL_law_2581 ?_
    refine x_iload (pc := 2582) hC dL_law_2582 rfl ?_
    refine x_i2l (pc := 2584) hC dL_law_2584 ?_
    refine x_lcmp (pc := 2585) hC dL_law_2585 ?_
    obtain ⟨hk10, h⟩ := jck_some h
    refine x_if_eq (tgt := 2591) (pc := 2586) hC dL_law_2586 (by decide) (fun _ => ?_) (fun hc => absurd hk10 hc)
    refine x_goto (tgt := 2756) (pc := 2591) hC dL_law_2591 (by decide) ?_
    refine x_kill 5 (ls2 := [(4, 0), jA 1, jA 166, jA 180, jI i, jN, jI v4]) rfl ?_
    refine x_kill 6 (ls2 := [(4, 0), jA 1, jA 166, jA 180, jI i, jN, jN]) rfl ?_
    refine x_widen (kc2 := kc + 4) (ks2 := ks + 24) (by omega) (by omega) ?_
    cases h
    exact kk
set_option maxHeartbeats 4000000 in
theorem st_38 {C : jC} {X : jX} (hC : jOk C X RL cL_law 7 180 60) (hSc : jSc C X) (hNs : jNs C) {kc ks : Nat} (hro : jRo C (kc + 4) (ks + 24)) {i : Int} {a1 : Int} (hi1 : 0 ≤ jw (i + 1) ∧ jw (i + 1) < ((jXs X).2.1 : Nat)) (ha1 : jsx X (jw (i + 1)) = a1) {M Mz : jM} (h : s_38 a1 M = some Mz) (kk : jG C X 180 7 (kc + 4) (ks + 24) 2756 [(4, 0), jA 1, jA 166, jA 180, jI i, jN, jN] [] Mz) : jG C X 180 7 kc ks 2594 [(4, 0), jA 1, jA 166, jA 180, jI i, jN, jN] [] M := by
  unfold s_38 at h
  refine x_aloadA_n (pc := 2594) hC dL_law_2594 rfl rfl kk_1 (by decide) ?_
  refine x_aload_n (pc := 2595) hC dL_law_2595 rfl rfl (show (4 : Nat) ≠ 0 by decide) rfl ?_
  refine x_iload (pc := 2596) hC dL_law_2596 rfl ?_
  refine x_iconst (pc := 2598) hC dL_law_2598 ?_
  refine x_iadd (pc := 2599) hC dL_law_2599 ?_
  refine x_sa (pc := 2600) hC hSc hi1 ha1 dL_law_2600 ?_
  refine x_aloadA_n (pc := 2601) hC dL_law_2601 rfl rfl kk_180 (by decide) ?_
  obtain ⟨v1, M3, e2, h⟩ := jbW_some h
  refine x_cSW (pc := 2602) hC hNs mw_L_262 (ok_L_clean (Nat.le_of_ble_eq_true rfl) e2) rfl (Nat.le_of_ble_eq_true rfl) (hro.sub (by omega) (by omega)) (Nat.le_of_ble_eq_true rfl) dL_law_2602 rfl (kc2 := kc + 1) (ks2 := ks + 6) rfl rfl ?_
  refine x_istore (ls2 := [(4, 0), jA 1, jA 166, jA 180, jI i, jI v1, jN]) (pc := 2605) hC dL_law_2605 (by decide) rfl rfl rfl ?_
  refine x_aloadA_n (pc := 2607) hC dL_law_2607 rfl rfl kk_166 (by decide) ?_
  refine x_aload_n (pc := 2608) hC dL_law_2608 rfl rfl (show (4 : Nat) ≠ 0 by decide) rfl ?_
  refine x_iload (pc := 2609) hC dL_law_2609 rfl ?_
  refine x_iconst (pc := 2611) hC dL_law_2611 ?_
  refine x_iadd (pc := 2612) hC dL_law_2612 ?_
  refine x_sa (pc := 2613) hC hSc hi1 ha1 dL_law_2613 ?_
  obtain ⟨v4, M6, e5, h⟩ := jbW_some h
  refine x_cV (pc := 2614) hC mv_L_264 (ok_X10_clean (Nat.le_of_ble_eq_true rfl) e5) rfl (Nat.le_of_ble_eq_true rfl) kk_166 rfl (by decide) (hro.sub (by omega) (by omega)) (Nat.le_of_ble_eq_true rfl) dL_law_2614 rfl ?_
  refine x_istore (ls2 := [(4, 0), jA 1, jA 166, jA 180, jI i, jI v1, jI v4]) (pc := 2617) hC dL_law_2617 (by decide) rfl rfl rfl ?_
  refine x_aloadA_n (pc := 2619) hC dL_law_2619 rfl rfl kk_166 (by decide) ?_
  obtain ⟨v7, e8, h⟩ := jbR_some h
  refine x_cV (pc := 2620) hC mv_L_143 (ok_X10_thrown (Nat.le_of_ble_eq_true rfl) e8) rfl (Nat.le_of_ble_eq_true rfl) kk_166 rfl (by decide) (hro.sub (by omega) (by omega)) (Nat.le_of_ble_eq_true rfl) dL_law_2620 rfl ?_
  refine x_iload (pc := 2623) hC dL_law_2623 rfl ?_
  obtain ⟨hk9, h⟩ := jck_some h
  refine x_icmp_eq (tgt := 2630) (pc := 2625) hC dL_law_2625 (by decide) (fun _ => ?_) (fun hc => absurd hk9 hc)
  refine x_iload (pc := 2630) hC dL_law_2630 rfl ?_
  refine x_if_ne (tgt := 2647) (pc := 2632) hC dL_law_2632 (by decide) (fun hc => ?_) (fun hc => ?_)
  · replace h := jit_neg hc h
    refine x_goto (tgt := 2756) (pc := 2647) hC dL_law_2647 (by decide) ?_
    refine x_kill 5 (ls2 := [(4, 0), jA 1, jA 166, jA 180, jI i, jN, jI v4]) rfl ?_
    refine x_kill 6 (ls2 := [(4, 0), jA 1, jA 166, jA 180, jI i, jN, jN]) rfl ?_
    refine x_widen (kc2 := kc + 4) (ks2 := ks + 24) (by omega) (by omega) ?_
    cases h
    exact kk
  · replace h := jit_pos hc h
    refine x_aloadA_n (pc := 2635) hC dL_law_2635 rfl rfl kk_180 (by decide) ?_
    refine x_iconst (pc := 2636) hC dL_law_2636 ?_
    refine x_lald (pc := 2637) hC kk_180 (by decide) (by decide +kernel) dL_law_2637 ?_
    refine x_iload (pc := 2638) hC dL_law_2638 rfl ?_
    refine x_i2l (pc := 2640) hC dL_law_2640 ?_
    refine x_lcmp (pc := 2641) hC dL_law_2641 ?_
    obtain ⟨hk10, h⟩ := jck_some h
    refine x_if_eq (tgt := 2647) (pc := 2642) hC dL_law_2642 (by decide) (fun _ => ?_) (fun hc => absurd hk10 hc)
    refine x_goto (tgt := 2756) (pc := 2647) hC dL_law_2647 (by decide) ?_
    refine x_kill 5 (ls2 := [(4, 0), jA 1, jA 166, jA 180, jI i, jN, jI v4]) rfl ?_
    refine x_kill 6 (ls2 := [(4, 0), jA 1, jA 166, jA 180, jI i, jN, jN]) rfl ?_
    refine x_widen (kc2 := kc + 4) (ks2 := ks + 24) (by omega) (by omega) ?_
    cases h
    exact kk
set_option maxHeartbeats 4000000 in
theorem st_39 {C : jC} {X : jX} (hC : jOk C X RL cL_law 7 180 60) (hSc : jSc C X) (hNs : jNs C) {kc ks : Nat} (hro : jRo C (kc + 4) (ks + 24)) {i : Int} {a1 : Int} (hi1 : 0 ≤ jw (i + 1) ∧ jw (i + 1) < ((jXs X).2.1 : Nat)) (ha1 : jsx X (jw (i + 1)) = a1) {M Mz : jM} (h : s_39 a1 M = some Mz) (kk : jG C X 180 7 (kc + 4) (ks + 24) 2756 [(4, 0), jA 1, jA 166, jA 180, jI i, jN, jN] [] Mz) : jG C X 180 7 kc ks 2650 [(4, 0), jA 1, jA 166, jA 180, jI i, jN, jN] [] M := by
  unfold s_39 at h
  refine x_aloadA_n (pc := 2650) hC dL_law_2650 rfl rfl kk_1 (by decide) ?_
  refine x_aload_n (pc := 2651) hC dL_law_2651 rfl rfl (show (4 : Nat) ≠ 0 by decide) rfl ?_
  refine x_iload (pc := 2652) hC dL_law_2652 rfl ?_
  refine x_iconst (pc := 2654) hC dL_law_2654 ?_
  refine x_iadd (pc := 2655) hC dL_law_2655 ?_
  refine x_sa (pc := 2656) hC hSc hi1 ha1 dL_law_2656 ?_
  refine x_aloadA_n (pc := 2657) hC dL_law_2657 rfl rfl kk_180 (by decide) ?_
  obtain ⟨v1, M3, e2, h⟩ := jbW_some h
  refine x_cSW (pc := 2658) hC hNs mw_L_265 (ok_L_write (Nat.le_of_ble_eq_true rfl) e2) rfl (Nat.le_of_ble_eq_true rfl) (hro.sub (by omega) (by omega)) (Nat.le_of_ble_eq_true rfl) dL_law_2658 rfl (kc2 := kc + 1) (ks2 := ks + 6) rfl rfl ?_
  refine x_istore (ls2 := [(4, 0), jA 1, jA 166, jA 180, jI i, jI v1, jN]) (pc := 2661) hC dL_law_2661 (by decide) rfl rfl rfl ?_
  refine x_aloadA_n (pc := 2663) hC dL_law_2663 rfl rfl kk_166 (by decide) ?_
  refine x_aload_n (pc := 2664) hC dL_law_2664 rfl rfl (show (4 : Nat) ≠ 0 by decide) rfl ?_
  refine x_iload (pc := 2665) hC dL_law_2665 rfl ?_
  refine x_iconst (pc := 2667) hC dL_law_2667 ?_
  refine x_iadd (pc := 2668) hC dL_law_2668 ?_
  refine x_sa (pc := 2669) hC hSc hi1 ha1 dL_law_2669 ?_
  obtain ⟨v4, M6, e5, h⟩ := jbW_some h
  refine x_cV (pc := 2670) hC mv_L_267 (ok_X10_write (Nat.le_of_ble_eq_true rfl) e5) rfl (Nat.le_of_ble_eq_true rfl) kk_166 rfl (by decide) (hro.sub (by omega) (by omega)) (Nat.le_of_ble_eq_true rfl) dL_law_2670 rfl ?_
  refine x_istore (ls2 := [(4, 0), jA 1, jA 166, jA 180, jI i, jI v1, jI v4]) (pc := 2673) hC dL_law_2673 (by decide) rfl rfl rfl ?_
  refine x_aloadA_n (pc := 2675) hC dL_law_2675 rfl rfl kk_166 (by decide) ?_
  obtain ⟨v7, e8, h⟩ := jbR_some h
  refine x_cV (pc := 2676) hC mv_L_143 (ok_X10_thrown (Nat.le_of_ble_eq_true rfl) e8) rfl (Nat.le_of_ble_eq_true rfl) kk_166 rfl (by decide) (hro.sub (by omega) (by omega)) (Nat.le_of_ble_eq_true rfl) dL_law_2676 rfl ?_
  refine x_iload (pc := 2679) hC dL_law_2679 rfl ?_
  obtain ⟨hk9, h⟩ := jck_some h
  refine x_icmp_eq (tgt := 2686) (pc := 2681) hC dL_law_2681 (by decide) (fun _ => ?_) (fun hc => absurd hk9 hc)
  refine x_iload (pc := 2686) hC dL_law_2686 rfl ?_
  refine x_if_ne (tgt := 2703) (pc := 2688) hC dL_law_2688 (by decide) (fun hc => ?_) (fun hc => ?_)
  · replace h := jit_neg hc h
    refine x_goto (tgt := 2756) (pc := 2703) hC dL_law_2703 (by decide) ?_
    refine x_kill 5 (ls2 := [(4, 0), jA 1, jA 166, jA 180, jI i, jN, jI v4]) rfl ?_
    refine x_kill 6 (ls2 := [(4, 0), jA 1, jA 166, jA 180, jI i, jN, jN]) rfl ?_
    refine x_widen (kc2 := kc + 4) (ks2 := ks + 24) (by omega) (by omega) ?_
    cases h
    exact kk
  · replace h := jit_pos hc h
    refine x_aloadA_n (pc := 2691) hC dL_law_2691 rfl rfl kk_180 (by decide) ?_
    refine x_iconst (pc := 2692) hC dL_law_2692 ?_
    refine x_lald (pc := 2693) hC kk_180 (by decide) (by decide +kernel) dL_law_2693 ?_
    refine x_iload (pc := 2694) hC dL_law_2694 rfl ?_
    refine x_i2l (pc := 2696) hC dL_law_2696 ?_
    refine x_lcmp (pc := 2697) hC dL_law_2697 ?_
    obtain ⟨hk10, h⟩ := jck_some h
    refine x_if_eq (tgt := 2703) (pc := 2698) hC dL_law_2698 (by decide) (fun _ => ?_) (fun hc => absurd hk10 hc)
    refine x_goto (tgt := 2756) (pc := 2703) hC dL_law_2703 (by decide) ?_
    refine x_kill 5 (ls2 := [(4, 0), jA 1, jA 166, jA 180, jI i, jN, jI v4]) rfl ?_
    refine x_kill 6 (ls2 := [(4, 0), jA 1, jA 166, jA 180, jI i, jN, jN]) rfl ?_
    refine x_widen (kc2 := kc + 4) (ks2 := ks + 24) (by omega) (by omega) ?_
    cases h
    exact kk
set_option maxHeartbeats 4000000 in
theorem st_40 {C : jC} {X : jX} (hC : jOk C X RL cL_law 7 180 60) (hSc : jSc C X) (hNs : jNs C) {kc ks : Nat} (hro : jRo C (kc + 4) (ks + 24)) {i : Int} {a1 : Int} (hi1 : 0 ≤ jw (i + 1) ∧ jw (i + 1) < ((jXs X).2.1 : Nat)) (ha1 : jsx X (jw (i + 1)) = a1) {M Mz : jM} (h : s_40 a1 M = some Mz) (kk : jG C X 180 7 (kc + 4) (ks + 24) 2756 [(4, 0), jA 1, jA 166, jA 180, jI i, jN, jN] [] Mz) : jG C X 180 7 kc ks 2706 [(4, 0), jA 1, jA 166, jA 180, jI i, jN, jN] [] M := by
  unfold s_40 at h
  refine x_aloadA_n (pc := 2706) hC dL_law_2706 rfl rfl kk_1 (by decide) ?_
  refine x_aload_n (pc := 2707) hC dL_law_2707 rfl rfl (show (4 : Nat) ≠ 0 by decide) rfl ?_
  refine x_iload (pc := 2708) hC dL_law_2708 rfl ?_
  refine x_iconst (pc := 2710) hC dL_law_2710 ?_
  refine x_iadd (pc := 2711) hC dL_law_2711 ?_
  refine x_sa (pc := 2712) hC hSc hi1 ha1 dL_law_2712 ?_
  obtain ⟨v1, e2, h⟩ := jbR_some h
  refine x_cV (pc := 2713) hC mv_L_268 (ok_X9_octet (Nat.le_of_ble_eq_true rfl) e2) rfl (Nat.le_of_ble_eq_true rfl) kk_1 rfl (by decide) (hro.sub (by omega) (by omega)) (Nat.le_of_ble_eq_true rfl) dL_law_2713 rfl ?_
  refine x_aloadA_n (pc := 2716) hC dL_law_2716 rfl rfl kk_166 (by decide) ?_
  refine x_aload_n (pc := 2717) hC dL_law_2717 rfl rfl (show (4 : Nat) ≠ 0 by decide) rfl ?_
  refine x_iload (pc := 2718) hC dL_law_2718 rfl ?_
  refine x_iconst (pc := 2720) hC dL_law_2720 ?_
  refine x_iadd (pc := 2721) hC dL_law_2721 ?_
  refine x_sa (pc := 2722) hC hSc hi1 ha1 dL_law_2722 ?_
  obtain ⟨v3, M5, e4, h⟩ := jbW_some h
  refine x_cV (pc := 2723) hC mv_L_271 (ok_X10_octet (Nat.le_of_ble_eq_true rfl) e4) rfl (Nat.le_of_ble_eq_true rfl) kk_166 rfl (by decide) (hro.sub (by omega) (by omega)) (Nat.le_of_ble_eq_true rfl) dL_law_2723 rfl ?_
  obtain ⟨hk6, h⟩ := jck_some h
  refine x_icmp_eq (tgt := 2756) (pc := 2726) hC dL_law_2726 (by decide) (fun _ => ?_) (fun hc => absurd hk6 hc)
  refine x_widen (kc2 := kc + 4) (ks2 := ks + 24) (by omega) (by omega) ?_
  cases h
  exact kk
set_option maxHeartbeats 4000000 in
theorem st_41 {C : jC} {X : jX} (hC : jOk C X RL cL_law 7 180 60) (hSc : jSc C X) (hNs : jNs C) {kc ks : Nat} (hro : jRo C (kc + 4) (ks + 24)) {i : Int} {a1 : Int} (hi1 : 0 ≤ jw (i + 1) ∧ jw (i + 1) < ((jXs X).2.1 : Nat)) (ha1 : jsx X (jw (i + 1)) = a1) {M Mz : jM} (h : s_41 a1 M = some Mz) (kk : jG C X 180 7 (kc + 4) (ks + 24) 2756 [(4, 0), jA 1, jA 166, jA 180, jI i, jN, jN] [] Mz) : jG C X 180 7 kc ks 2731 [(4, 0), jA 1, jA 166, jA 180, jI i, jN, jN] [] M := by
  unfold s_41 at h
  refine x_aloadA_n (pc := 2731) hC dL_law_2731 rfl rfl kk_1 (by decide) ?_
  refine x_aload_n (pc := 2732) hC dL_law_2732 rfl rfl (show (4 : Nat) ≠ 0 by decide) rfl ?_
  refine x_iload (pc := 2733) hC dL_law_2733 rfl ?_
  refine x_iconst (pc := 2735) hC dL_law_2735 ?_
  refine x_iadd (pc := 2736) hC dL_law_2736 ?_
  refine x_sa (pc := 2737) hC hSc hi1 ha1 dL_law_2737 ?_
  obtain ⟨v1, e2, h⟩ := jbR_some h
  refine x_cV (pc := 2738) hC mv_L_272 (ok_X9_count (Nat.le_of_ble_eq_true rfl) e2) rfl (Nat.le_of_ble_eq_true rfl) kk_1 rfl (by decide) (hro.sub (by omega) (by omega)) (Nat.le_of_ble_eq_true rfl) dL_law_2738 rfl ?_
  refine x_aloadA_n (pc := 2741) hC dL_law_2741 rfl rfl kk_166 (by decide) ?_
  refine x_aload_n (pc := 2742) hC dL_law_2742 rfl rfl (show (4 : Nat) ≠ 0 by decide) rfl ?_
  refine x_iload (pc := 2743) hC dL_law_2743 rfl ?_
  refine x_iconst (pc := 2745) hC dL_law_2745 ?_
  refine x_iadd (pc := 2746) hC dL_law_2746 ?_
  refine x_sa (pc := 2747) hC hSc hi1 ha1 dL_law_2747 ?_
  obtain ⟨v3, M5, e4, h⟩ := jbW_some h
  refine x_cV (pc := 2748) hC mv_L_275 (ok_X10_count (Nat.le_of_ble_eq_true rfl) e4) rfl (Nat.le_of_ble_eq_true rfl) kk_166 rfl (by decide) (hro.sub (by omega) (by omega)) (Nat.le_of_ble_eq_true rfl) dL_law_2748 rfl ?_
  obtain ⟨hk6, h⟩ := jck_some h
  refine x_icmp_eq (tgt := 2756) (pc := 2751) hC dL_law_2751 (by decide) (fun _ => ?_) (fun hc => absurd hk6 hc)
  refine x_widen (kc2 := kc + 4) (ks2 := ks + 24) (by omega) (by omega) ?_
  cases h
  exact kk
