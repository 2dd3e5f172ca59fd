theorem zin_1 {w : Cond} (h : w ∈ tables_1_1) : w ∈ lw_tbl := List.mem_append_right _ (List.mem_append_left _ h)
theorem zin_2 {w : Cond} (h : w ∈ tables_1_2) : w ∈ lw_tbl := List.mem_append_right _ (List.mem_append_right _ (List.mem_append_left _ h))
theorem zin_3 {w : Cond} (h : w ∈ tables_1_3) : w ∈ lw_tbl := List.mem_append_right _ (List.mem_append_right _ (List.mem_append_right _ (List.mem_append_left _ h)))
theorem zin_4 {w : Cond} (h : w ∈ tables_1_4) : w ∈ lw_tbl := List.mem_append_right _ (List.mem_append_right _ (List.mem_append_right _ (List.mem_append_right _ (List.mem_append_left _ h))))
theorem zin_5 {w : Cond} (h : w ∈ tables_1_5) : w ∈ lw_tbl := List.mem_append_right _ (List.mem_append_right _ (List.mem_append_right _ (List.mem_append_right _ (List.mem_append_right _ (List.mem_append_left _ h)))))
theorem zin_6 {w : Cond} (h : w ∈ tables_1_6) : w ∈ lw_tbl := List.mem_append_right _ (List.mem_append_right _ (List.mem_append_right _ (List.mem_append_right _ (List.mem_append_right _ (List.mem_append_right _ (List.mem_append_left _ h))))))
theorem zin_7 {w : Cond} (h : w ∈ tables_1_7) : w ∈ lw_tbl := List.mem_append_right _ (List.mem_append_right _ (List.mem_append_right _ (List.mem_append_right _ (List.mem_append_right _ (List.mem_append_right _ (List.mem_append_right _ (List.mem_append_left _ h)))))))
theorem zin_8 {w : Cond} (h : w ∈ tables_1_8) : w ∈ lw_tbl := List.mem_append_right _ (List.mem_append_right _ (List.mem_append_right _ (List.mem_append_right _ (List.mem_append_right _ (List.mem_append_right _ (List.mem_append_right _ (List.mem_append_right _ (List.mem_append_left _ h))))))))
theorem zin_9 {w : Cond} (h : w ∈ tables_1_9) : w ∈ lw_tbl := List.mem_append_right _ (List.mem_append_right _ (List.mem_append_right _ (List.mem_append_right _ (List.mem_append_right _ (List.mem_append_right _ (List.mem_append_right _ (List.mem_append_right _ (List.mem_append_right _ (h)))))))))
theorem ini_RL : Cond.initialized RL ∈ zTbl := zTbl_of (zin_1 (List.mem_of_getElem? (i := 0) (by decide +kernel))) rfl
theorem ini_RX9 : Cond.initialized RX9 ∈ zTbl := zTbl_of (zin_1 (List.mem_of_getElem? (i := 1) (by decide +kernel))) rfl
theorem ini_RX8 : Cond.initialized RX8 ∈ zTbl := zTbl_of (zin_1 (List.mem_of_getElem? (i := 2) (by decide +kernel))) rfl
theorem ini_RX0 : Cond.initialized RX0 ∈ zTbl := zTbl_of (zin_1 (List.mem_of_getElem? (i := 3) (by decide +kernel))) rfl
theorem ini_RX5 : Cond.initialized RX5 ∈ zTbl := zTbl_of (zin_1 (List.mem_of_getElem? (i := 4) (by decide +kernel))) rfl
theorem ini_RX1 : Cond.initialized RX1 ∈ zTbl := zTbl_of (zin_1 (List.mem_of_getElem? (i := 5) (by decide +kernel))) rfl
theorem ini_RX7 : Cond.initialized RX7 ∈ zTbl := zTbl_of (zin_1 (List.mem_of_getElem? (i := 6) (by decide +kernel))) rfl
theorem ini_RX2 : Cond.initialized RX2 ∈ zTbl := zTbl_of (zin_1 (List.mem_of_getElem? (i := 7) (by decide +kernel))) rfl
theorem ini_RX4 : Cond.initialized RX4 ∈ zTbl := zTbl_of (zin_1 (List.mem_of_getElem? (i := 8) (by decide +kernel))) rfl
theorem ini_RX6 : Cond.initialized RX6 ∈ zTbl := zTbl_of (zin_1 (List.mem_of_getElem? (i := 9) (by decide +kernel))) rfl
theorem ini_RX3 : Cond.initialized RX3 ∈ zTbl := zTbl_of (zin_1 (List.mem_of_getElem? (i := 10) (by decide +kernel))) rfl
theorem ini_RX10 : Cond.initialized RX10 ∈ zTbl := zTbl_of (zin_1 (List.mem_of_getElem? (i := 11) (by decide +kernel))) rfl
theorem ini_RJ9 : Cond.initialized RJ9 ∈ zTbl := zTbl_of (zin_1 (List.mem_of_getElem? (i := 12) (by decide +kernel))) rfl
theorem ini_RJ0 : Cond.initialized RJ0 ∈ zTbl := zTbl_of (zin_1 (List.mem_of_getElem? (i := 17) (by decide +kernel))) rfl
theorem ini_RJ1 : Cond.initialized RJ1 ∈ zTbl := zTbl_of (zin_1 (List.mem_of_getElem? (i := 18) (by decide +kernel))) rfl
theorem ini_RJ3 : Cond.initialized RJ3 ∈ zTbl := zTbl_of (zin_1 (List.mem_of_getElem? (i := 19) (by decide +kernel))) rfl
theorem ini_RJ2 : Cond.initialized RJ2 ∈ zTbl := zTbl_of (zin_1 (List.mem_of_getElem? (i := 20) (by decide +kernel))) rfl
theorem ini_RJ10 : Cond.initialized RJ10 ∈ zTbl := zTbl_of (zin_1 (List.mem_of_getElem? (i := 21) (by decide +kernel))) rfl
theorem ini_RJ6 : Cond.initialized RJ6 ∈ zTbl := zTbl_of (zin_1 (List.mem_of_getElem? (i := 23) (by decide +kernel))) rfl
theorem wM_L_129 : Cond.methodLink RL 129 yX9_init ∈ zTbl := zTbl_of (zin_1 (List.mem_of_getElem? (i := 26) (by decide +kernel))) rfl
theorem mi_X9_init : Cond.instanceMethod yX9_init ∈ zTbl := zTbl_of (zin_1 (List.mem_of_getElem? (i := 27) (by decide +kernel))) rfl
set_option maxRecDepth 20000 in
theorem kd_X9_init : Cond.code yX9_init prog_1_method_1_code 2 (Option.none : Option FieldType) ∈ zTbl := zTbl_of (zin_1 (List.mem_of_getElem? (i := 28) rfl)) rfl
theorem wN_X9_9 : Cond.methodLinkNest RX9 9 yX8_init "ContraryChairs" ∈ lw_tbl := zin_1 (List.mem_of_getElem? (i := 34) (by decide +kernel))
theorem mi_X8_init : Cond.instanceMethod yX8_init ∈ zTbl := zTbl_of (zin_1 (List.mem_of_getElem? (i := 35) (by decide +kernel))) rfl
set_option maxRecDepth 20000 in
theorem kd_X8_init : Cond.code yX8_init prog_10_method_1_code 1 (Option.none : Option FieldType) ∈ zTbl := zTbl_of (zin_1 (List.mem_of_getElem? (i := 36) rfl)) rfl
theorem wF_X8_9 : Cond.fieldLink RX8 9 "ContraryChairs$Tape" "bytes" "[B" ∈ zTbl := zTbl_of (zin_1 (List.mem_of_getElem? (i := 38) (by decide +kernel))) rfl
theorem wF_X9_96 : Cond.fieldLink RX9 96 "ContraryChairs$Tape" "size" "I" ∈ zTbl := zTbl_of (zin_1 (List.mem_of_getElem? (i := 39) (by decide +kernel))) rfl
theorem wF_X8_19 : Cond.fieldLink RX8 19 "ContraryChairs$Tape" "size" "I" ∈ zTbl := zTbl_of (zin_1 (List.mem_of_getElem? (i := 40) (by decide +kernel))) rfl
theorem wF_X8_28 : Cond.fieldLink RX8 28 "ContraryChairs$Tape" "fault" "I" ∈ zTbl := zTbl_of (zin_1 (List.mem_of_getElem? (i := 41) (by decide +kernel))) rfl
theorem wF_X9_112 : Cond.fieldLink RX9 112 "ContraryChairs$Tape" "fault" "I" ∈ zTbl := zTbl_of (zin_1 (List.mem_of_getElem? (i := 42) (by decide +kernel))) rfl
theorem wF_X8_15 : Cond.fieldLink RX8 15 "ContraryChairs$Tape" "place" "I" ∈ zTbl := zTbl_of (zin_1 (List.mem_of_getElem? (i := 43) (by decide +kernel))) rfl
theorem wF_X9_147 : Cond.fieldLink RX9 147 "ContraryChairs$Tape" "place" "I" ∈ zTbl := zTbl_of (zin_1 (List.mem_of_getElem? (i := 44) (by decide +kernel))) rfl
theorem wF_X8_22 : Cond.fieldLink RX8 22 "ContraryChairs$Tape" "end" "I" ∈ zTbl := zTbl_of (zin_1 (List.mem_of_getElem? (i := 45) (by decide +kernel))) rfl
theorem wF_X8_25 : Cond.fieldLink RX8 25 "ContraryChairs$Tape" "at" "I" ∈ zTbl := zTbl_of (zin_1 (List.mem_of_getElem? (i := 46) (by decide +kernel))) rfl
theorem wN_X9_18 : Cond.methodLinkNest RX9 18 yX0_init "ContraryChairs" ∈ lw_tbl := zin_1 (List.mem_of_getElem? (i := 63) (by decide +kernel))
theorem mi_X0_init : Cond.instanceMethod yX0_init ∈ zTbl := zTbl_of (zin_1 (List.mem_of_getElem? (i := 64) (by decide +kernel))) rfl
set_option maxRecDepth 20000 in
theorem kd_X0_init : Cond.code yX0_init prog_2_method_1_code 1 (Option.none : Option FieldType) ∈ zTbl := zTbl_of (zin_1 (List.mem_of_getElem? (i := 65) rfl)) rfl
theorem wF_X0_43 : Cond.fieldLink RX0 43 "ContraryChairs$Academy" "questions" "I" ∈ zTbl := zTbl_of (zin_1 (List.mem_of_getElem? (i := 67) (by decide +kernel))) rfl
theorem wF_X6_111 : Cond.fieldLink RX6 111 "ContraryChairs$Academy" "questions" "I" ∈ zTbl := zTbl_of (zin_1 (List.mem_of_getElem? (i := 68) (by decide +kernel))) rfl
theorem wF_X2_136 : Cond.fieldLink RX2 136 "ContraryChairs$Academy" "questions" "I" ∈ zTbl := zTbl_of (zin_1 (List.mem_of_getElem? (i := 69) (by decide +kernel))) rfl
theorem wF_X9_158 : Cond.fieldLink RX9 158 "ContraryChairs$Academy" "questions" "I" ∈ zTbl := zTbl_of (zin_1 (List.mem_of_getElem? (i := 70) (by decide +kernel))) rfl
theorem wF_X3_23 : Cond.fieldLink RX3 23 "ContraryChairs$Academy" "men" "I" ∈ zTbl := zTbl_of (zin_1 (List.mem_of_getElem? (i := 71) (by decide +kernel))) rfl
theorem wF_X0_46 : Cond.fieldLink RX0 46 "ContraryChairs$Academy" "men" "I" ∈ zTbl := zTbl_of (zin_1 (List.mem_of_getElem? (i := 72) (by decide +kernel))) rfl
theorem wF_X9_134 : Cond.fieldLink RX9 134 "ContraryChairs$Academy" "men" "I" ∈ zTbl := zTbl_of (zin_1 (List.mem_of_getElem? (i := 73) (by decide +kernel))) rfl
theorem wF_X6_90 : Cond.fieldLink RX6 90 "ContraryChairs$Academy" "men" "I" ∈ zTbl := zTbl_of (zin_1 (List.mem_of_getElem? (i := 74) (by decide +kernel))) rfl
theorem wF_X2_82 : Cond.fieldLink RX2 82 "ContraryChairs$Academy" "men" "I" ∈ zTbl := zTbl_of (zin_1 (List.mem_of_getElem? (i := 75) (by decide +kernel))) rfl
theorem wF_X4_78 : Cond.fieldLink RX4 78 "ContraryChairs$Academy" "men" "I" ∈ zTbl := zTbl_of (zin_1 (List.mem_of_getElem? (i := 76) (by decide +kernel))) rfl
theorem wF_X0_9 : Cond.fieldLink RX0 9 "ContraryChairs$Academy" "chairs" "I" ∈ zTbl := zTbl_of (zin_1 (List.mem_of_getElem? (i := 77) (by decide +kernel))) rfl
theorem wF_X2_75 : Cond.fieldLink RX2 75 "ContraryChairs$Academy" "chairs" "I" ∈ zTbl := zTbl_of (zin_1 (List.mem_of_getElem? (i := 78) (by decide +kernel))) rfl
theorem wF_X9_161 : Cond.fieldLink RX9 161 "ContraryChairs$Academy" "chairs" "I" ∈ zTbl := zTbl_of (zin_1 (List.mem_of_getElem? (i := 79) (by decide +kernel))) rfl
theorem wF_X0_49 : Cond.fieldLink RX0 49 "ContraryChairs$Academy" "seats" "I" ∈ zTbl := zTbl_of (zin_1 (List.mem_of_getElem? (i := 80) (by decide +kernel))) rfl
theorem wF_X7_52 : Cond.fieldLink RX7 52 "ContraryChairs$Academy" "seats" "I" ∈ zTbl := zTbl_of (zin_1 (List.mem_of_getElem? (i := 81) (by decide +kernel))) rfl
theorem wF_X0_52 : Cond.fieldLink RX0 52 "ContraryChairs$Academy" "deaths" "I" ∈ zTbl := zTbl_of (zin_1 (List.mem_of_getElem? (i := 82) (by decide +kernel))) rfl
theorem wF_X2_31 : Cond.fieldLink RX2 31 "ContraryChairs$Academy" "deaths" "I" ∈ zTbl := zTbl_of (zin_1 (List.mem_of_getElem? (i := 83) (by decide +kernel))) rfl
theorem wF_X9_174 : Cond.fieldLink RX9 174 "ContraryChairs$Academy" "deaths" "I" ∈ zTbl := zTbl_of (zin_1 (List.mem_of_getElem? (i := 84) (by decide +kernel))) rfl
theorem wF_X0_55 : Cond.fieldLink RX0 55 "ContraryChairs$Academy" "praises" "I" ∈ zTbl := zTbl_of (zin_1 (List.mem_of_getElem? (i := 85) (by decide +kernel))) rfl
theorem wF_X9_177 : Cond.fieldLink RX9 177 "ContraryChairs$Academy" "praises" "I" ∈ zTbl := zTbl_of (zin_1 (List.mem_of_getElem? (i := 86) (by decide +kernel))) rfl
theorem wF_X0_64 : Cond.fieldLink RX0 64 "ContraryChairs$Academy" "chairsTold" "Z" ∈ zTbl := zTbl_of (zin_1 (List.mem_of_getElem? (i := 87) (by decide +kernel))) rfl
theorem wF_X0_15 : Cond.fieldLink RX0 15 "ContraryChairs$Academy" "sides" "[I" ∈ zTbl := zTbl_of (zin_1 (List.mem_of_getElem? (i := 88) (by decide +kernel))) rfl
theorem wF_X6_118 : Cond.fieldLink RX6 118 "ContraryChairs$Academy" "sides" "[I" ∈ zTbl := zTbl_of (zin_1 (List.mem_of_getElem? (i := 89) (by decide +kernel))) rfl
theorem wF_X9_208 : Cond.fieldLink RX9 208 "ContraryChairs$Academy" "sides" "[I" ∈ zTbl := zTbl_of (zin_1 (List.mem_of_getElem? (i := 90) (by decide +kernel))) rfl
theorem wF_X0_19 : Cond.fieldLink RX0 19 "ContraryChairs$Academy" "ages" "[I" ∈ zTbl := zTbl_of (zin_1 (List.mem_of_getElem? (i := 91) (by decide +kernel))) rfl
theorem wF_X2_160 : Cond.fieldLink RX2 160 "ContraryChairs$Academy" "ages" "[I" ∈ zTbl := zTbl_of (zin_1 (List.mem_of_getElem? (i := 92) (by decide +kernel))) rfl
theorem wF_X0_22 : Cond.fieldLink RX0 22 "ContraryChairs$Academy" "codes" "[I" ∈ zTbl := zTbl_of (zin_1 (List.mem_of_getElem? (i := 93) (by decide +kernel))) rfl
theorem wF_X6_100 : Cond.fieldLink RX6 100 "ContraryChairs$Academy" "codes" "[I" ∈ zTbl := zTbl_of (zin_1 (List.mem_of_getElem? (i := 94) (by decide +kernel))) rfl
theorem wF_X0_25 : Cond.fieldLink RX0 25 "ContraryChairs$Academy" "seated" "[I" ∈ zTbl := zTbl_of (zin_1 (List.mem_of_getElem? (i := 95) (by decide +kernel))) rfl
theorem wF_X7_57 : Cond.fieldLink RX7 57 "ContraryChairs$Academy" "seated" "[I" ∈ zTbl := zTbl_of (zin_1 (List.mem_of_getElem? (i := 96) (by decide +kernel))) rfl
theorem wF_X0_28 : Cond.fieldLink RX0 28 "ContraryChairs$Academy" "deathYears" "[I" ∈ zTbl := zTbl_of (zin_1 (List.mem_of_getElem? (i := 97) (by decide +kernel))) rfl
theorem wF_X2_37 : Cond.fieldLink RX2 37 "ContraryChairs$Academy" "deathYears" "[I" ∈ zTbl := zTbl_of (zin_1 (List.mem_of_getElem? (i := 98) (by decide +kernel))) rfl
theorem wF_X0_31 : Cond.fieldLink RX0 31 "ContraryChairs$Academy" "deathMen" "[I" ∈ zTbl := zTbl_of (zin_1 (List.mem_of_getElem? (i := 99) (by decide +kernel))) rfl
theorem wF_X2_49 : Cond.fieldLink RX2 49 "ContraryChairs$Academy" "deathMen" "[I" ∈ zTbl := zTbl_of (zin_1 (List.mem_of_getElem? (i := 100) (by decide +kernel))) rfl
theorem wF_X0_34 : Cond.fieldLink RX0 34 "ContraryChairs$Academy" "praiseYears" "[I" ∈ zTbl := zTbl_of (zin_1 (List.mem_of_getElem? (i := 101) (by decide +kernel))) rfl
theorem wF_X0_37 : Cond.fieldLink RX0 37 "ContraryChairs$Academy" "praiseMen" "[I" ∈ zTbl := zTbl_of (zin_1 (List.mem_of_getElem? (i := 102) (by decide +kernel))) rfl
theorem wF_X0_40 : Cond.fieldLink RX0 40 "ContraryChairs$Academy" "praiseBy" "[I" ∈ zTbl := zTbl_of (zin_1 (List.mem_of_getElem? (i := 103) (by decide +kernel))) rfl
theorem wM_X9_28 : Cond.methodLink RX9 28 yX5_init ∈ zTbl := zTbl_of (zin_1 (List.mem_of_getElem? (i := 140) (by decide +kernel))) rfl
theorem mi_X5_init : Cond.instanceMethod yX5_init ∈ zTbl := zTbl_of (zin_1 (List.mem_of_getElem? (i := 141) (by decide +kernel))) rfl
set_option maxRecDepth 20000 in
theorem kd_X5_init : Cond.code yX5_init prog_7_method_1_code 1 (Option.none : Option FieldType) ∈ zTbl := zTbl_of (zin_1 (List.mem_of_getElem? (i := 142) rfl)) rfl
theorem wM_X5_21 : Cond.methodLink RX5 21 yX5_beUsual ∈ zTbl := zTbl_of (zin_1 (List.mem_of_getElem? (i := 144) (by decide +kernel))) rfl
theorem mi_X5_beUsual : Cond.instanceMethod yX5_beUsual ∈ zTbl := zTbl_of (zin_1 (List.mem_of_getElem? (i := 145) (by decide +kernel))) rfl
theorem sl_X5_beUsual : Cond.selects RX5 yX5_beUsual yX5_beUsual ∈ zTbl := zTbl_of (zin_1 (List.mem_of_getElem? (i := 146) (by decide +kernel))) rfl
set_option maxRecDepth 20000 in
theorem kd_X5_beUsual : Cond.code yX5_beUsual prog_7_method_2_code 1 (Option.none : Option FieldType) ∈ zTbl := zTbl_of (zin_1 (List.mem_of_getElem? (i := 147) rfl)) rfl
theorem wM_X5_28 : Cond.methodLink RX5 28 yX5_add ∈ zTbl := zTbl_of (zin_1 (List.mem_of_getElem? (i := 148) (by decide +kernel))) rfl
theorem mi_X5_add : Cond.instanceMethod yX5_add ∈ zTbl := zTbl_of (zin_1 (List.mem_of_getElem? (i := 150) (by decide +kernel))) rfl
set_option maxRecDepth 20000 in
theorem kd_X5_add : Cond.code yX5_add prog_7_method_4_code 2 (Option.none : Option FieldType) ∈ zTbl := zTbl_of (zin_1 (List.mem_of_getElem? (i := 151) rfl)) rfl
theorem wF_X5_9 : Cond.fieldLink RX5 9 "ContraryChairs$Law" "steps" "[I" ∈ zTbl := zTbl_of (zin_1 (List.mem_of_getElem? (i := 152) (by decide +kernel))) rfl
theorem wF_X5_15 : Cond.fieldLink RX5 15 "ContraryChairs$Law" "values" "[I" ∈ zTbl := zTbl_of (zin_1 (List.mem_of_getElem? (i := 153) (by decide +kernel))) rfl
theorem wF_X5_18 : Cond.fieldLink RX5 18 "ContraryChairs$Law" "facts" "[I" ∈ zTbl := zTbl_of (zin_1 (List.mem_of_getElem? (i := 154) (by decide +kernel))) rfl
theorem wF_X5_24 : Cond.fieldLink RX5 24 "ContraryChairs$Law" "size" "I" ∈ zTbl := zTbl_of (zin_1 (List.mem_of_getElem? (i := 155) (by decide +kernel))) rfl
theorem wN_X9_38 : Cond.methodLinkNest RX9 38 yX1_init "ContraryChairs" ∈ lw_tbl := zin_1 (List.mem_of_getElem? (i := 167) (by decide +kernel))
theorem mi_X1_init : Cond.instanceMethod yX1_init ∈ zTbl := zTbl_of (zin_1 (List.mem_of_getElem? (i := 168) (by decide +kernel))) rfl
set_option maxRecDepth 20000 in
theorem kd_X1_init : Cond.code yX1_init prog_3_method_1_code 1 (Option.none : Option FieldType) ∈ zTbl := zTbl_of (zin_1 (List.mem_of_getElem? (i := 169) rfl)) rfl
theorem wF_X1_18 : Cond.fieldLink RX1 18 "ContraryChairs$Book" "lines" "I" ∈ zTbl := zTbl_of (zin_1 (List.mem_of_getElem? (i := 171) (by decide +kernel))) rfl
theorem wF_X6_57 : Cond.fieldLink RX6 57 "ContraryChairs$Book" "lines" "I" ∈ zTbl := zTbl_of (zin_1 (List.mem_of_getElem? (i := 172) (by decide +kernel))) rfl
theorem wF_X9_122 : Cond.fieldLink RX9 122 "ContraryChairs$Book" "lines" "I" ∈ zTbl := zTbl_of (zin_1 (List.mem_of_getElem? (i := 173) (by decide +kernel))) rfl
theorem wF_X1_9 : Cond.fieldLink RX1 9 "ContraryChairs$Book" "years" "[I" ∈ zTbl := zTbl_of (zin_1 (List.mem_of_getElem? (i := 174) (by decide +kernel))) rfl
theorem wF_X6_61 : Cond.fieldLink RX6 61 "ContraryChairs$Book" "years" "[I" ∈ zTbl := zTbl_of (zin_1 (List.mem_of_getElem? (i := 175) (by decide +kernel))) rfl
theorem wF_X1_15 : Cond.fieldLink RX1 15 "ContraryChairs$Book" "men" "[I" ∈ zTbl := zTbl_of (zin_1 (List.mem_of_getElem? (i := 176) (by decide +kernel))) rfl
theorem wF_X6_68 : Cond.fieldLink RX6 68 "ContraryChairs$Book" "men" "[I" ∈ zTbl := zTbl_of (zin_1 (List.mem_of_getElem? (i := 177) (by decide +kernel))) rfl
theorem wN_X9_48 : Cond.methodLinkNest RX9 48 yX7_init "ContraryChairs" ∈ lw_tbl := zin_1 (List.mem_of_getElem? (i := 187) (by decide +kernel))
theorem mi_X7_init : Cond.instanceMethod yX7_init ∈ zTbl := zTbl_of (zin_1 (List.mem_of_getElem? (i := 188) (by decide +kernel))) rfl
set_option maxRecDepth 20000 in
theorem kd_X7_init : Cond.code yX7_init prog_9_method_1_code 1 (Option.none : Option FieldType) ∈ zTbl := zTbl_of (zin_1 (List.mem_of_getElem? (i := 189) rfl)) rfl
theorem wF_X7_9 : Cond.fieldLink RX7 9 "ContraryChairs$Row" "year" "I" ∈ zTbl := zTbl_of (zin_1 (List.mem_of_getElem? (i := 191) (by decide +kernel))) rfl
theorem wF_X2_44 : Cond.fieldLink RX2 44 "ContraryChairs$Row" "year" "I" ∈ zTbl := zTbl_of (zin_1 (List.mem_of_getElem? (i := 192) (by decide +kernel))) rfl
theorem wF_X4_64 : Cond.fieldLink RX4 64 "ContraryChairs$Row" "year" "I" ∈ zTbl := zTbl_of (zin_1 (List.mem_of_getElem? (i := 193) (by decide +kernel))) rfl
theorem wF_X9_164 : Cond.fieldLink RX9 164 "ContraryChairs$Row" "year" "I" ∈ zTbl := zTbl_of (zin_1 (List.mem_of_getElem? (i := 194) (by decide +kernel))) rfl
theorem wF_X7_31 : Cond.fieldLink RX7 31 "ContraryChairs$Row" "sat" "I" ∈ zTbl := zTbl_of (zin_1 (List.mem_of_getElem? (i := 195) (by decide +kernel))) rfl
theorem wF_X4_57 : Cond.fieldLink RX4 57 "ContraryChairs$Row" "sat" "I" ∈ zTbl := zTbl_of (zin_1 (List.mem_of_getElem? (i := 196) (by decide +kernel))) rfl
theorem wF_X2_72 : Cond.fieldLink RX2 72 "ContraryChairs$Row" "sat" "I" ∈ zTbl := zTbl_of (zin_1 (List.mem_of_getElem? (i := 197) (by decide +kernel))) rfl
theorem wF_X9_167 : Cond.fieldLink RX9 167 "ContraryChairs$Row" "sat" "I" ∈ zTbl := zTbl_of (zin_1 (List.mem_of_getElem? (i := 198) (by decide +kernel))) rfl
theorem wF_X3_74 : Cond.fieldLink RX3 74 "ContraryChairs$Row" "sat" "I" ∈ zTbl := zTbl_of (zin_1 (List.mem_of_getElem? (i := 199) (by decide +kernel))) rfl
theorem wF_X7_34 : Cond.fieldLink RX7 34 "ContraryChairs$Row" "voids" "I" ∈ zTbl := zTbl_of (zin_1 (List.mem_of_getElem? (i := 200) (by decide +kernel))) rfl
theorem wF_X4_61 : Cond.fieldLink RX4 61 "ContraryChairs$Row" "voids" "I" ∈ zTbl := zTbl_of (zin_1 (List.mem_of_getElem? (i := 201) (by decide +kernel))) rfl
theorem wF_X2_62 : Cond.fieldLink RX2 62 "ContraryChairs$Row" "voids" "I" ∈ zTbl := zTbl_of (zin_1 (List.mem_of_getElem? (i := 202) (by decide +kernel))) rfl
theorem wF_X9_236 : Cond.fieldLink RX9 236 "ContraryChairs$Row" "voids" "I" ∈ zTbl := zTbl_of (zin_1 (List.mem_of_getElem? (i := 203) (by decide +kernel))) rfl
theorem wF_X7_37 : Cond.fieldLink RX7 37 "ContraryChairs$Row" "entered" "I" ∈ zTbl := zTbl_of (zin_1 (List.mem_of_getElem? (i := 204) (by decide +kernel))) rfl
theorem wF_X2_65 : Cond.fieldLink RX2 65 "ContraryChairs$Row" "entered" "I" ∈ zTbl := zTbl_of (zin_1 (List.mem_of_getElem? (i := 205) (by decide +kernel))) rfl
theorem wF_X9_239 : Cond.fieldLink RX9 239 "ContraryChairs$Row" "entered" "I" ∈ zTbl := zTbl_of (zin_1 (List.mem_of_getElem? (i := 206) (by decide +kernel))) rfl
theorem wF_X7_40 : Cond.fieldLink RX7 40 "ContraryChairs$Row" "left" "I" ∈ zTbl := zTbl_of (zin_1 (List.mem_of_getElem? (i := 207) (by decide +kernel))) rfl
theorem wF_X9_242 : Cond.fieldLink RX9 242 "ContraryChairs$Row" "left" "I" ∈ zTbl := zTbl_of (zin_1 (List.mem_of_getElem? (i := 208) (by decide +kernel))) rfl
theorem wF_X7_43 : Cond.fieldLink RX7 43 "ContraryChairs$Row" "died" "I" ∈ zTbl := zTbl_of (zin_1 (List.mem_of_getElem? (i := 209) (by decide +kernel))) rfl
theorem wF_X2_106 : Cond.fieldLink RX2 106 "ContraryChairs$Row" "died" "I" ∈ zTbl := zTbl_of (zin_1 (List.mem_of_getElem? (i := 210) (by decide +kernel))) rfl
theorem wF_X9_245 : Cond.fieldLink RX9 245 "ContraryChairs$Row" "died" "I" ∈ zTbl := zTbl_of (zin_1 (List.mem_of_getElem? (i := 211) (by decide +kernel))) rfl
theorem wF_X4_152 : Cond.fieldLink RX4 152 "ContraryChairs$Row" "died" "I" ∈ zTbl := zTbl_of (zin_1 (List.mem_of_getElem? (i := 212) (by decide +kernel))) rfl
theorem wF_X7_46 : Cond.fieldLink RX7 46 "ContraryChairs$Row" "asides" "I" ∈ zTbl := zTbl_of (zin_1 (List.mem_of_getElem? (i := 213) (by decide +kernel))) rfl
theorem wF_X9_255 : Cond.fieldLink RX9 255 "ContraryChairs$Row" "asides" "I" ∈ zTbl := zTbl_of (zin_1 (List.mem_of_getElem? (i := 214) (by decide +kernel))) rfl
theorem wF_X7_49 : Cond.fieldLink RX7 49 "ContraryChairs$Row" "asideYear" "I" ∈ zTbl := zTbl_of (zin_1 (List.mem_of_getElem? (i := 215) (by decide +kernel))) rfl
theorem wF_X7_15 : Cond.fieldLink RX7 15 "ContraryChairs$Row" "chairs" "[I" ∈ zTbl := zTbl_of (zin_1 (List.mem_of_getElem? (i := 216) (by decide +kernel))) rfl
theorem wF_X7_19 : Cond.fieldLink RX7 19 "ContraryChairs$Row" "state" "[I" ∈ zTbl := zTbl_of (zin_1 (List.mem_of_getElem? (i := 217) (by decide +kernel))) rfl
theorem wF_X2_103 : Cond.fieldLink RX2 103 "ContraryChairs$Row" "state" "[I" ∈ zTbl := zTbl_of (zin_1 (List.mem_of_getElem? (i := 218) (by decide +kernel))) rfl
theorem wF_X4_67 : Cond.fieldLink RX4 67 "ContraryChairs$Row" "state" "[I" ∈ zTbl := zTbl_of (zin_1 (List.mem_of_getElem? (i := 219) (by decide +kernel))) rfl
theorem wF_X9_187 : Cond.fieldLink RX9 187 "ContraryChairs$Row" "state" "[I" ∈ zTbl := zTbl_of (zin_1 (List.mem_of_getElem? (i := 220) (by decide +kernel))) rfl
theorem wF_X7_22 : Cond.fieldLink RX7 22 "ContraryChairs$Row" "waits" "[I" ∈ zTbl := zTbl_of (zin_1 (List.mem_of_getElem? (i := 221) (by decide +kernel))) rfl
theorem wF_X2_89 : Cond.fieldLink RX2 89 "ContraryChairs$Row" "waits" "[I" ∈ zTbl := zTbl_of (zin_1 (List.mem_of_getElem? (i := 222) (by decide +kernel))) rfl
theorem wF_X9_199 : Cond.fieldLink RX9 199 "ContraryChairs$Row" "waits" "[I" ∈ zTbl := zTbl_of (zin_1 (List.mem_of_getElem? (i := 223) (by decide +kernel))) rfl
theorem wF_X7_25 : Cond.fieldLink RX7 25 "ContraryChairs$Row" "since" "[I" ∈ zTbl := zTbl_of (zin_1 (List.mem_of_getElem? (i := 224) (by decide +kernel))) rfl
theorem wF_X9_202 : Cond.fieldLink RX9 202 "ContraryChairs$Row" "since" "[I" ∈ zTbl := zTbl_of (zin_1 (List.mem_of_getElem? (i := 225) (by decide +kernel))) rfl
theorem wF_X7_28 : Cond.fieldLink RX7 28 "ContraryChairs$Row" "aside" "[I" ∈ zTbl := zTbl_of (zin_1 (List.mem_of_getElem? (i := 226) (by decide +kernel))) rfl
theorem wM_X9_62 : Cond.methodLink RX9 62 yX2_init ∈ zTbl := zTbl_of (zin_2 (List.mem_of_getElem? (i := 17) (by decide +kernel))) rfl
theorem mi_X2_init : Cond.instanceMethod yX2_init ∈ zTbl := zTbl_of (zin_2 (List.mem_of_getElem? (i := 18) (by decide +kernel))) rfl
set_option maxRecDepth 20000 in
theorem kd_X2_init : Cond.code yX2_init prog_4_method_1_code 3 (Option.none : Option FieldType) ∈ zTbl := zTbl_of (zin_2 (List.mem_of_getElem? (i := 19) rfl)) rfl
theorem wF_X2_15 : Cond.fieldLink RX2 15 "ContraryChairs$Calendar" "academy" "LContraryChairs$Academy;" ∈ zTbl := zTbl_of (zin_2 (List.mem_of_getElem? (i := 21) (by decide +kernel))) rfl
theorem wF_X2_19 : Cond.fieldLink RX2 19 "ContraryChairs$Calendar" "law" "LContraryChairs$Law;" ∈ zTbl := zTbl_of (zin_2 (List.mem_of_getElem? (i := 22) (by decide +kernel))) rfl
theorem wF_X2_9 : Cond.fieldLink RX2 9 "ContraryChairs$Calendar" "scores" "[I" ∈ zTbl := zTbl_of (zin_2 (List.mem_of_getElem? (i := 23) (by decide +kernel))) rfl
theorem wF_X4_96 : Cond.fieldLink RX4 96 "ContraryChairs$Calendar" "scores" "[I" ∈ zTbl := zTbl_of (zin_2 (List.mem_of_getElem? (i := 24) (by decide +kernel))) rfl
theorem wM_X9_71 : Cond.methodLink RX9 71 yX4_init ∈ zTbl := zTbl_of (zin_2 (List.mem_of_getElem? (i := 34) (by decide +kernel))) rfl
theorem mi_X4_init : Cond.instanceMethod yX4_init ∈ zTbl := zTbl_of (zin_2 (List.mem_of_getElem? (i := 35) (by decide +kernel))) rfl
set_option maxRecDepth 20000 in
theorem kd_X4_init : Cond.code yX4_init prog_6_method_1_code 5 (Option.none : Option FieldType) ∈ zTbl := zTbl_of (zin_2 (List.mem_of_getElem? (i := 36) rfl)) rfl
theorem wN_X4_11 : Cond.methodLinkNest RX4 11 yX7_init "ContraryChairs" ∈ lw_tbl := zin_2 (List.mem_of_getElem? (i := 39) (by decide +kernel))
theorem wF_X4_32 : Cond.fieldLink RX4 32 "ContraryChairs$Foresight" "academy" "LContraryChairs$Academy;" ∈ zTbl := zTbl_of (zin_2 (List.mem_of_getElem? (i := 40) (by decide +kernel))) rfl
theorem wF_X4_36 : Cond.fieldLink RX4 36 "ContraryChairs$Foresight" "calendar" "LContraryChairs$Calendar;" ∈ zTbl := zTbl_of (zin_2 (List.mem_of_getElem? (i := 41) (by decide +kernel))) rfl
theorem wF_X4_40 : Cond.fieldLink RX4 40 "ContraryChairs$Foresight" "now" "LContraryChairs$Row;" ∈ zTbl := zTbl_of (zin_2 (List.mem_of_getElem? (i := 42) (by decide +kernel))) rfl
theorem wF_X4_12 : Cond.fieldLink RX4 12 "ContraryChairs$Foresight" "trial" "LContraryChairs$Row;" ∈ zTbl := zTbl_of (zin_2 (List.mem_of_getElem? (i := 43) (by decide +kernel))) rfl
theorem wF_X4_18 : Cond.fieldLink RX4 18 "ContraryChairs$Foresight" "stages" "[LContraryChairs$Row;" ∈ zTbl := zTbl_of (zin_2 (List.mem_of_getElem? (i := 44) (by decide +kernel))) rfl
theorem wF_X4_22 : Cond.fieldLink RX4 22 "ContraryChairs$Foresight" "outcomes" "[I" ∈ zTbl := zTbl_of (zin_2 (List.mem_of_getElem? (i := 45) (by decide +kernel))) rfl
theorem wF_X4_26 : Cond.fieldLink RX4 26 "ContraryChairs$Foresight" "marked" "[I" ∈ zTbl := zTbl_of (zin_2 (List.mem_of_getElem? (i := 46) (by decide +kernel))) rfl
theorem wF_X4_29 : Cond.fieldLink RX4 29 "ContraryChairs$Foresight" "choices" "[I" ∈ zTbl := zTbl_of (zin_2 (List.mem_of_getElem? (i := 47) (by decide +kernel))) rfl
theorem wF_X4_120 : Cond.fieldLink RX4 120 "ContraryChairs$Foresight" "fewest" "I" ∈ zTbl := zTbl_of (zin_2 (List.mem_of_getElem? (i := 48) (by decide +kernel))) rfl
theorem wF_X4_123 : Cond.fieldLink RX4 123 "ContraryChairs$Foresight" "firstWay" "I" ∈ zTbl := zTbl_of (zin_2 (List.mem_of_getElem? (i := 49) (by decide +kernel))) rfl
theorem wF_X4_155 : Cond.fieldLink RX4 155 "ContraryChairs$Foresight" "fewestSat" "I" ∈ zTbl := zTbl_of (zin_2 (List.mem_of_getElem? (i := 50) (by decide +kernel))) rfl
theorem wF_X9_354 : Cond.fieldLink RX9 354 "ContraryChairs$Foresight" "fewestSat" "I" ∈ zTbl := zTbl_of (zin_2 (List.mem_of_getElem? (i := 51) (by decide +kernel))) rfl
theorem wF_X4_158 : Cond.fieldLink RX4 158 "ContraryChairs$Foresight" "mostSat" "I" ∈ zTbl := zTbl_of (zin_2 (List.mem_of_getElem? (i := 52) (by decide +kernel))) rfl
theorem wF_X9_357 : Cond.fieldLink RX9 357 "ContraryChairs$Foresight" "mostSat" "I" ∈ zTbl := zTbl_of (zin_2 (List.mem_of_getElem? (i := 53) (by decide +kernel))) rfl
theorem wF_X4_161 : Cond.fieldLink RX4 161 "ContraryChairs$Foresight" "sittings" "I" ∈ zTbl := zTbl_of (zin_2 (List.mem_of_getElem? (i := 54) (by decide +kernel))) rfl
theorem wF_X9_360 : Cond.fieldLink RX9 360 "ContraryChairs$Foresight" "sittings" "I" ∈ zTbl := zTbl_of (zin_2 (List.mem_of_getElem? (i := 55) (by decide +kernel))) rfl
theorem wM_X9_80 : Cond.methodLink RX9 80 yX6_init ∈ zTbl := zTbl_of (zin_2 (List.mem_of_getElem? (i := 85) (by decide +kernel))) rfl
theorem mi_X6_init : Cond.instanceMethod yX6_init ∈ zTbl := zTbl_of (zin_2 (List.mem_of_getElem? (i := 86) (by decide +kernel))) rfl
set_option maxRecDepth 20000 in
theorem kd_X6_init : Cond.code yX6_init prog_8_method_1_code 4 (Option.none : Option FieldType) ∈ zTbl := zTbl_of (zin_2 (List.mem_of_getElem? (i := 87) rfl)) rfl
theorem wN_X6_11 : Cond.methodLinkNest RX6 11 yX7_init "ContraryChairs" ∈ lw_tbl := zin_2 (List.mem_of_getElem? (i := 90) (by decide +kernel))
theorem wF_X6_25 : Cond.fieldLink RX6 25 "ContraryChairs$Records" "academy" "LContraryChairs$Academy;" ∈ zTbl := zTbl_of (zin_2 (List.mem_of_getElem? (i := 91) (by decide +kernel))) rfl
theorem wF_X6_29 : Cond.fieldLink RX6 29 "ContraryChairs$Records" "book" "LContraryChairs$Book;" ∈ zTbl := zTbl_of (zin_2 (List.mem_of_getElem? (i := 92) (by decide +kernel))) rfl
theorem wF_X6_33 : Cond.fieldLink RX6 33 "ContraryChairs$Records" "calendar" "LContraryChairs$Calendar;" ∈ zTbl := zTbl_of (zin_2 (List.mem_of_getElem? (i := 93) (by decide +kernel))) rfl
theorem wF_X6_12 : Cond.fieldLink RX6 12 "ContraryChairs$Records" "trial" "LContraryChairs$Row;" ∈ zTbl := zTbl_of (zin_2 (List.mem_of_getElem? (i := 94) (by decide +kernel))) rfl
theorem wF_X6_18 : Cond.fieldLink RX6 18 "ContraryChairs$Records" "takenIn" "[I" ∈ zTbl := zTbl_of (zin_2 (List.mem_of_getElem? (i := 95) (by decide +kernel))) rfl
theorem wF_X6_22 : Cond.fieldLink RX6 22 "ContraryChairs$Records" "sidesSeen" "[I" ∈ zTbl := zTbl_of (zin_2 (List.mem_of_getElem? (i := 96) (by decide +kernel))) rfl
theorem wF_X6_94 : Cond.fieldLink RX6 94 "ContraryChairs$Records" "ways" "I" ∈ zTbl := zTbl_of (zin_2 (List.mem_of_getElem? (i := 97) (by decide +kernel))) rfl
theorem wF_X9_274 : Cond.fieldLink RX9 274 "ContraryChairs$Records" "ways" "I" ∈ zTbl := zTbl_of (zin_2 (List.mem_of_getElem? (i := 98) (by decide +kernel))) rfl
theorem wF_X6_97 : Cond.fieldLink RX6 97 "ContraryChairs$Records" "firstWay" "I" ∈ zTbl := zTbl_of (zin_2 (List.mem_of_getElem? (i := 99) (by decide +kernel))) rfl
theorem wF_X9_277 : Cond.fieldLink RX9 277 "ContraryChairs$Records" "firstWay" "I" ∈ zTbl := zTbl_of (zin_2 (List.mem_of_getElem? (i := 100) (by decide +kernel))) rfl
theorem wM_X9_89 : Cond.methodLink RX9 89 yX3_init ∈ zTbl := zTbl_of (zin_2 (List.mem_of_getElem? (i := 120) (by decide +kernel))) rfl
theorem mi_X3_init : Cond.instanceMethod yX3_init ∈ zTbl := zTbl_of (zin_2 (List.mem_of_getElem? (i := 121) (by decide +kernel))) rfl
set_option maxRecDepth 20000 in
theorem kd_X3_init : Cond.code yX3_init prog_5_method_1_code 3 (Option.none : Option FieldType) ∈ zTbl := zTbl_of (zin_2 (List.mem_of_getElem? (i := 122) rfl)) rfl
theorem wF_X3_15 : Cond.fieldLink RX3 15 "ContraryChairs$Company" "academy" "LContraryChairs$Academy;" ∈ zTbl := zTbl_of (zin_2 (List.mem_of_getElem? (i := 124) (by decide +kernel))) rfl
theorem wF_X3_19 : Cond.fieldLink RX3 19 "ContraryChairs$Company" "now" "LContraryChairs$Row;" ∈ zTbl := zTbl_of (zin_2 (List.mem_of_getElem? (i := 125) (by decide +kernel))) rfl
theorem wF_X3_9 : Cond.fieldLink RX3 9 "ContraryChairs$Company" "tally" "[I" ∈ zTbl := zTbl_of (zin_2 (List.mem_of_getElem? (i := 126) (by decide +kernel))) rfl
theorem wF_X9_10 : Cond.fieldLink RX9 10 "ContraryChairs" "tape" "LContraryChairs$Tape;" ∈ zTbl := zTbl_of (zin_2 (List.mem_of_getElem? (i := 134) (by decide +kernel))) rfl
theorem wF_X9_19 : Cond.fieldLink RX9 19 "ContraryChairs" "academy" "LContraryChairs$Academy;" ∈ zTbl := zTbl_of (zin_2 (List.mem_of_getElem? (i := 135) (by decide +kernel))) rfl
theorem wF_X9_23 : Cond.fieldLink RX9 23 "ContraryChairs" "draftAcademy" "LContraryChairs$Academy;" ∈ zTbl := zTbl_of (zin_2 (List.mem_of_getElem? (i := 136) (by decide +kernel))) rfl
theorem wF_X9_29 : Cond.fieldLink RX9 29 "ContraryChairs" "law" "LContraryChairs$Law;" ∈ zTbl := zTbl_of (zin_2 (List.mem_of_getElem? (i := 137) (by decide +kernel))) rfl
theorem wF_X9_33 : Cond.fieldLink RX9 33 "ContraryChairs" "draftLaw" "LContraryChairs$Law;" ∈ zTbl := zTbl_of (zin_2 (List.mem_of_getElem? (i := 138) (by decide +kernel))) rfl
theorem wF_X9_39 : Cond.fieldLink RX9 39 "ContraryChairs" "book" "LContraryChairs$Book;" ∈ zTbl := zTbl_of (zin_2 (List.mem_of_getElem? (i := 139) (by decide +kernel))) rfl
theorem wF_X9_43 : Cond.fieldLink RX9 43 "ContraryChairs" "draftBook" "LContraryChairs$Book;" ∈ zTbl := zTbl_of (zin_2 (List.mem_of_getElem? (i := 140) (by decide +kernel))) rfl
theorem wF_X9_49 : Cond.fieldLink RX9 49 "ContraryChairs" "now" "LContraryChairs$Row;" ∈ zTbl := zTbl_of (zin_2 (List.mem_of_getElem? (i := 141) (by decide +kernel))) rfl
theorem wF_X9_53 : Cond.fieldLink RX9 53 "ContraryChairs" "undoEnd" "LContraryChairs$Row;" ∈ zTbl := zTbl_of (zin_2 (List.mem_of_getElem? (i := 142) (by decide +kernel))) rfl
theorem wF_X9_56 : Cond.fieldLink RX9 56 "ContraryChairs" "images" "[LContraryChairs$Row;" ∈ zTbl := zTbl_of (zin_2 (List.mem_of_getElem? (i := 143) (by decide +kernel))) rfl
theorem wF_X9_125 : Cond.fieldLink RX9 125 "ContraryChairs" "imageCount" "I" ∈ zTbl := zTbl_of (zin_2 (List.mem_of_getElem? (i := 144) (by decide +kernel))) rfl
theorem wF_X9_65 : Cond.fieldLink RX9 65 "ContraryChairs" "calendar" "LContraryChairs$Calendar;" ∈ zTbl := zTbl_of (zin_2 (List.mem_of_getElem? (i := 145) (by decide +kernel))) rfl
theorem wF_X9_74 : Cond.fieldLink RX9 74 "ContraryChairs" "foresight" "LContraryChairs$Foresight;" ∈ zTbl := zTbl_of (zin_2 (List.mem_of_getElem? (i := 146) (by decide +kernel))) rfl
theorem wF_X9_83 : Cond.fieldLink RX9 83 "ContraryChairs" "records" "LContraryChairs$Records;" ∈ zTbl := zTbl_of (zin_2 (List.mem_of_getElem? (i := 147) (by decide +kernel))) rfl
theorem wF_X9_92 : Cond.fieldLink RX9 92 "ContraryChairs" "company" "LContraryChairs$Company;" ∈ zTbl := zTbl_of (zin_2 (List.mem_of_getElem? (i := 148) (by decide +kernel))) rfl
theorem wF_X9_363 : Cond.fieldLink RX9 363 "ContraryChairs" "unknownCalls" "I" ∈ zTbl := zTbl_of (zin_2 (List.mem_of_getElem? (i := 149) (by decide +kernel))) rfl
theorem wF_X9_366 : Cond.fieldLink RX9 366 "ContraryChairs" "unfitCalls" "I" ∈ zTbl := zTbl_of (zin_2 (List.mem_of_getElem? (i := 150) (by decide +kernel))) rfl
theorem wM_L_133 : Cond.methodLink RL 133 yX9_feed ∈ zTbl := zTbl_of (zin_2 (List.mem_of_getElem? (i := 186) (by decide +kernel))) rfl
theorem mi_X9_feed : Cond.instanceMethod yX9_feed ∈ zTbl := zTbl_of (zin_2 (List.mem_of_getElem? (i := 187) (by decide +kernel))) rfl
theorem sl_X9_feed : Cond.selects RX9 yX9_feed yX9_feed ∈ zTbl := zTbl_of (zin_2 (List.mem_of_getElem? (i := 188) (by decide +kernel))) rfl
set_option maxRecDepth 20000 in
theorem kd_X9_feed : Cond.code yX9_feed prog_1_method_2_code 6 (Option.some FieldType.int) ∈ zTbl := zTbl_of (zin_2 (List.mem_of_getElem? (i := 189) rfl)) rfl
theorem wM_X9_100 : Cond.methodLink RX9 100 yX8_put ∈ zTbl := zTbl_of (zin_2 (List.mem_of_getElem? (i := 190) (by decide +kernel))) rfl
theorem mi_X8_put : Cond.instanceMethod yX8_put ∈ zTbl := zTbl_of (zin_2 (List.mem_of_getElem? (i := 191) (by decide +kernel))) rfl
theorem sl_X8_put : Cond.selects RX8 yX8_put yX8_put ∈ zTbl := zTbl_of (zin_2 (List.mem_of_getElem? (i := 192) (by decide +kernel))) rfl
set_option maxRecDepth 20000 in
theorem kd_X8_put : Cond.code yX8_put prog_10_method_2_code 3 (Option.none : Option FieldType) ∈ zTbl := zTbl_of (zin_2 (List.mem_of_getElem? (i := 193) rfl)) rfl
theorem wM_L_154 : Cond.methodLink RL 154 yX9_fault ∈ zTbl := zTbl_of (zin_2 (List.mem_of_getElem? (i := 194) (by decide +kernel))) rfl
theorem mi_X9_fault : Cond.instanceMethod yX9_fault ∈ zTbl := zTbl_of (zin_2 (List.mem_of_getElem? (i := 195) (by decide +kernel))) rfl
theorem sl_X9_fault : Cond.selects RX9 yX9_fault yX9_fault ∈ zTbl := zTbl_of (zin_2 (List.mem_of_getElem? (i := 196) (by decide +kernel))) rfl
set_option maxRecDepth 20000 in
theorem kd_X9_fault : Cond.code yX9_fault prog_1_method_6_code 1 (Option.some FieldType.int) ∈ zTbl := zTbl_of (zin_2 (List.mem_of_getElem? (i := 197) rfl)) rfl
theorem wM_L_180 : Cond.methodLink RL 180 yX9_next ∈ zTbl := zTbl_of (zin_2 (List.mem_of_getElem? (i := 198) (by decide +kernel))) rfl
theorem mi_X9_next : Cond.instanceMethod yX9_next ∈ zTbl := zTbl_of (zin_2 (List.mem_of_getElem? (i := 199) (by decide +kernel))) rfl
theorem sl_X9_next : Cond.selects RX9 yX9_next yX9_next ∈ zTbl := zTbl_of (zin_2 (List.mem_of_getElem? (i := 200) (by decide +kernel))) rfl
set_option maxRecDepth 20000 in
theorem kd_X9_next : Cond.code yX9_next prog_1_method_14_code 1 (Option.some FieldType.int) ∈ zTbl := zTbl_of (zin_2 (List.mem_of_getElem? (i := 201) rfl)) rfl
theorem wM_X9_224 : Cond.methodLink RX9 224 yX4_nextTaken ∈ zTbl := zTbl_of (zin_2 (List.mem_of_getElem? (i := 202) (by decide +kernel))) rfl
theorem mi_X4_nextTaken : Cond.instanceMethod yX4_nextTaken ∈ zTbl := zTbl_of (zin_2 (List.mem_of_getElem? (i := 203) (by decide +kernel))) rfl
theorem sl_X4_nextTaken : Cond.selects RX4 yX4_nextTaken yX4_nextTaken ∈ zTbl := zTbl_of (zin_2 (List.mem_of_getElem? (i := 204) (by decide +kernel))) rfl
set_option maxRecDepth 20000 in
theorem kd_X4_nextTaken : Cond.code yX4_nextTaken prog_6_method_2_code 1 (Option.some FieldType.int) ∈ zTbl := zTbl_of (zin_2 (List.mem_of_getElem? (i := 205) rfl)) rfl
theorem wM_X4_43 : Cond.methodLink RX4 43 yX7_copy ∈ zTbl := zTbl_of (zin_2 (List.mem_of_getElem? (i := 206) (by decide +kernel))) rfl
theorem mi_X7_copy : Cond.instanceMethod yX7_copy ∈ zTbl := zTbl_of (zin_2 (List.mem_of_getElem? (i := 207) (by decide +kernel))) rfl
theorem sl_X7_copy : Cond.selects RX7 yX7_copy yX7_copy ∈ zTbl := zTbl_of (zin_2 (List.mem_of_getElem? (i := 208) (by decide +kernel))) rfl
set_option maxRecDepth 20000 in
theorem kd_X7_copy : Cond.code yX7_copy prog_9_method_3_code 2 (Option.none : Option FieldType) ∈ zTbl := zTbl_of (zin_2 (List.mem_of_getElem? (i := 209) rfl)) rfl
theorem wM_X7_68 : Cond.methodLink RX7 68 arraycopyName ∈ zTbl := zTbl_of (zin_2 (List.mem_of_getElem? (i := 210) (by decide +kernel))) rfl
theorem wM_X4_47 : Cond.methodLink RX4 47 yX2_pass ∈ zTbl := zTbl_of (zin_2 (List.mem_of_getElem? (i := 213) (by decide +kernel))) rfl
theorem mi_X2_pass : Cond.instanceMethod yX2_pass ∈ zTbl := zTbl_of (zin_2 (List.mem_of_getElem? (i := 214) (by decide +kernel))) rfl
theorem sl_X2_pass : Cond.selects RX2 yX2_pass yX2_pass ∈ zTbl := zTbl_of (zin_2 (List.mem_of_getElem? (i := 215) (by decide +kernel))) rfl
set_option maxRecDepth 20000 in
theorem kd_X2_pass : Cond.code yX2_pass prog_4_method_2_code 2 (Option.some FieldType.int) ∈ zTbl := zTbl_of (zin_2 (List.mem_of_getElem? (i := 216) rfl)) rfl
theorem wM_X2_23 : Cond.methodLink RX2 23 yX2_tellDeaths ∈ zTbl := zTbl_of (zin_2 (List.mem_of_getElem? (i := 217) (by decide +kernel))) rfl
theorem mi_X2_tellDeaths : Cond.instanceMethod yX2_tellDeaths ∈ zTbl := zTbl_of (zin_2 (List.mem_of_getElem? (i := 218) (by decide +kernel))) rfl
theorem sl_X2_tellDeaths : Cond.selects RX2 yX2_tellDeaths yX2_tellDeaths ∈ zTbl := zTbl_of (zin_2 (List.mem_of_getElem? (i := 219) (by decide +kernel))) rfl
set_option maxRecDepth 20000 in
theorem kd_X2_tellDeaths : Cond.code yX2_tellDeaths prog_4_method_3_code 3 (Option.none : Option FieldType) ∈ zTbl := zTbl_of (zin_2 (List.mem_of_getElem? (i := 220) rfl)) rfl
theorem wN_X2_40 : Cond.methodLinkNest RX2 40 yX9_get "ContraryChairs" ∈ lw_tbl := zin_2 (List.mem_of_getElem? (i := 221) (by decide +kernel))
theorem ms_X9_get : Cond.static yX9_get ∈ zTbl := zTbl_of (zin_2 (List.mem_of_getElem? (i := 222) (by decide +kernel))) rfl
set_option maxRecDepth 20000 in
theorem kd_X9_get : Cond.code yX9_get prog_1_method_59_code 2 (Option.some FieldType.int) ∈ zTbl := zTbl_of (zin_2 (List.mem_of_getElem? (i := 223) rfl)) rfl
theorem wM_X2_52 : Cond.methodLink RX2 52 yX2_kill ∈ zTbl := zTbl_of (zin_2 (List.mem_of_getElem? (i := 224) (by decide +kernel))) rfl
theorem mi_X2_kill : Cond.instanceMethod yX2_kill ∈ zTbl := zTbl_of (zin_2 (List.mem_of_getElem? (i := 225) (by decide +kernel))) rfl
theorem sl_X2_kill : Cond.selects RX2 yX2_kill yX2_kill ∈ zTbl := zTbl_of (zin_2 (List.mem_of_getElem? (i := 226) (by decide +kernel))) rfl
set_option maxRecDepth 20000 in
theorem kd_X2_kill : Cond.code yX2_kill prog_4_method_5_code 6 (Option.some FieldType.int) ∈ zTbl := zTbl_of (zin_2 (List.mem_of_getElem? (i := 227) rfl)) rfl
theorem wM_X2_96 : Cond.methodLink RX2 96 yX7_isAlive ∈ zTbl := zTbl_of (zin_2 (List.mem_of_getElem? (i := 228) (by decide +kernel))) rfl
theorem mi_X7_isAlive : Cond.instanceMethod yX7_isAlive ∈ zTbl := zTbl_of (zin_2 (List.mem_of_getElem? (i := 229) (by decide +kernel))) rfl
theorem sl_X7_isAlive : Cond.selects RX7 yX7_isAlive yX7_isAlive ∈ zTbl := zTbl_of (zin_2 (List.mem_of_getElem? (i := 230) (by decide +kernel))) rfl
set_option maxRecDepth 20000 in
theorem kd_X7_isAlive : Cond.code yX7_isAlive prog_9_method_5_code 2 (Option.some FieldType.boolean) ∈ zTbl := zTbl_of (zin_2 (List.mem_of_getElem? (i := 231) rfl)) rfl
theorem wN_X7_60 : Cond.methodLinkNest RX7 60 yX9_get "ContraryChairs" ∈ lw_tbl := zin_2 (List.mem_of_getElem? (i := 232) (by decide +kernel))
theorem wM_X2_99 : Cond.methodLink RX2 99 yX7_chairOf ∈ zTbl := zTbl_of (zin_2 (List.mem_of_getElem? (i := 233) (by decide +kernel))) rfl
theorem mi_X7_chairOf : Cond.instanceMethod yX7_chairOf ∈ zTbl := zTbl_of (zin_2 (List.mem_of_getElem? (i := 234) (by decide +kernel))) rfl
theorem sl_X7_chairOf : Cond.selects RX7 yX7_chairOf yX7_chairOf ∈ zTbl := zTbl_of (zin_2 (List.mem_of_getElem? (i := 235) (by decide +kernel))) rfl
set_option maxRecDepth 20000 in
theorem kd_X7_chairOf : Cond.code yX7_chairOf prog_9_method_8_code 3 (Option.some FieldType.int) ∈ zTbl := zTbl_of (zin_2 (List.mem_of_getElem? (i := 236) rfl)) rfl
theorem wN_X2_92 : Cond.methodLinkNest RX2 92 yX9_set "ContraryChairs" ∈ lw_tbl := zin_2 (List.mem_of_getElem? (i := 237) (by decide +kernel))
theorem ms_X9_set : Cond.static yX9_set ∈ zTbl := zTbl_of (zin_2 (List.mem_of_getElem? (i := 238) (by decide +kernel))) rfl
set_option maxRecDepth 20000 in
theorem kd_X9_set : Cond.code yX9_set prog_1_method_60_code 3 (Option.none : Option FieldType) ∈ zTbl := zTbl_of (zin_2 (List.mem_of_getElem? (i := 239) rfl)) rfl
theorem wM_X2_109 : Cond.methodLink RX2 109 yX7_vacate ∈ zTbl := zTbl_of (zin_3 (List.mem_of_getElem? (i := 0) (by decide +kernel))) rfl
theorem mi_X7_vacate : Cond.instanceMethod yX7_vacate ∈ zTbl := zTbl_of (zin_3 (List.mem_of_getElem? (i := 1) (by decide +kernel))) rfl
theorem sl_X7_vacate : Cond.selects RX7 yX7_vacate yX7_vacate ∈ zTbl := zTbl_of (zin_3 (List.mem_of_getElem? (i := 2) (by decide +kernel))) rfl
set_option maxRecDepth 20000 in
theorem kd_X7_vacate : Cond.code yX7_vacate prog_9_method_10_code 3 (Option.none : Option FieldType) ∈ zTbl := zTbl_of (zin_3 (List.mem_of_getElem? (i := 3) rfl)) rfl
theorem wN_X7_74 : Cond.methodLinkNest RX7 74 yX9_set "ContraryChairs" ∈ lw_tbl := zin_3 (List.mem_of_getElem? (i := 4) (by decide +kernel))
theorem wM_X2_112 : Cond.methodLink RX2 112 yX2_agreeAcross ∈ zTbl := zTbl_of (zin_3 (List.mem_of_getElem? (i := 5) (by decide +kernel))) rfl
theorem mi_X2_agreeAcross : Cond.instanceMethod yX2_agreeAcross ∈ zTbl := zTbl_of (zin_3 (List.mem_of_getElem? (i := 7) (by decide +kernel))) rfl
set_option maxRecDepth 20000 in
theorem kd_X2_agreeAcross : Cond.code yX2_agreeAcross prog_4_method_6_code 3 (Option.some FieldType.boolean) ∈ zTbl := zTbl_of (zin_3 (List.mem_of_getElem? (i := 8) rfl)) rfl
theorem wM_X2_116 : Cond.methodLink RX2 116 yX7_onChair ∈ zTbl := zTbl_of (zin_3 (List.mem_of_getElem? (i := 9) (by decide +kernel))) rfl
theorem mi_X7_onChair : Cond.instanceMethod yX7_onChair ∈ zTbl := zTbl_of (zin_3 (List.mem_of_getElem? (i := 10) (by decide +kernel))) rfl
theorem sl_X7_onChair : Cond.selects RX7 yX7_onChair yX7_onChair ∈ zTbl := zTbl_of (zin_3 (List.mem_of_getElem? (i := 11) (by decide +kernel))) rfl
set_option maxRecDepth 20000 in
theorem kd_X7_onChair : Cond.code yX7_onChair prog_9_method_6_code 2 (Option.some FieldType.int) ∈ zTbl := zTbl_of (zin_3 (List.mem_of_getElem? (i := 12) rfl)) rfl
theorem wM_X2_119 : Cond.methodLink RX2 119 yX0_believeTheSame ∈ zTbl := zTbl_of (zin_3 (List.mem_of_getElem? (i := 13) (by decide +kernel))) rfl
theorem mi_X0_believeTheSame : Cond.instanceMethod yX0_believeTheSame ∈ zTbl := zTbl_of (zin_3 (List.mem_of_getElem? (i := 14) (by decide +kernel))) rfl
theorem sl_X0_believeTheSame : Cond.selects RX0 yX0_believeTheSame yX0_believeTheSame ∈ zTbl := zTbl_of (zin_3 (List.mem_of_getElem? (i := 15) (by decide +kernel))) rfl
set_option maxRecDepth 20000 in
theorem kd_X0_believeTheSame : Cond.code yX0_believeTheSame prog_2_method_17_code 3 (Option.some FieldType.boolean) ∈ zTbl := zTbl_of (zin_3 (List.mem_of_getElem? (i := 16) rfl)) rfl
theorem wN_X0_139 : Cond.methodLinkNest RX0 139 yX9_get "ContraryChairs" ∈ lw_tbl := zin_3 (List.mem_of_getElem? (i := 17) (by decide +kernel))
theorem wM_X2_78 : Cond.methodLink RX2 78 yX7_leave ∈ zTbl := zTbl_of (zin_3 (List.mem_of_getElem? (i := 18) (by decide +kernel))) rfl
theorem mi_X7_leave : Cond.instanceMethod yX7_leave ∈ zTbl := zTbl_of (zin_3 (List.mem_of_getElem? (i := 19) (by decide +kernel))) rfl
theorem sl_X7_leave : Cond.selects RX7 yX7_leave yX7_leave ∈ zTbl := zTbl_of (zin_3 (List.mem_of_getElem? (i := 20) (by decide +kernel))) rfl
set_option maxRecDepth 20000 in
theorem kd_X7_leave : Cond.code yX7_leave prog_9_method_11_code 2 (Option.none : Option FieldType) ∈ zTbl := zTbl_of (zin_3 (List.mem_of_getElem? (i := 21) rfl)) rfl
theorem wM_X7_78 : Cond.methodLink RX7 78 yX7_vacate ∈ zTbl := zTbl_of (zin_3 (List.mem_of_getElem? (i := 22) (by decide +kernel))) rfl
theorem wM_X2_27 : Cond.methodLink RX2 27 yX2_settle ∈ zTbl := zTbl_of (zin_3 (List.mem_of_getElem? (i := 23) (by decide +kernel))) rfl
theorem mi_X2_settle : Cond.instanceMethod yX2_settle ∈ zTbl := zTbl_of (zin_3 (List.mem_of_getElem? (i := 24) (by decide +kernel))) rfl
theorem sl_X2_settle : Cond.selects RX2 yX2_settle yX2_settle ∈ zTbl := zTbl_of (zin_3 (List.mem_of_getElem? (i := 25) (by decide +kernel))) rfl
set_option maxRecDepth 20000 in
theorem kd_X2_settle : Cond.code yX2_settle prog_4_method_4_code 4 (Option.some FieldType.int) ∈ zTbl := zTbl_of (zin_3 (List.mem_of_getElem? (i := 26) rfl)) rfl
theorem wM_X2_56 : Cond.methodLink RX2 56 yX2_scoreAll ∈ zTbl := zTbl_of (zin_3 (List.mem_of_getElem? (i := 27) (by decide +kernel))) rfl
theorem mi_X2_scoreAll : Cond.instanceMethod yX2_scoreAll ∈ zTbl := zTbl_of (zin_3 (List.mem_of_getElem? (i := 28) (by decide +kernel))) rfl
theorem sl_X2_scoreAll : Cond.selects RX2 yX2_scoreAll yX2_scoreAll ∈ zTbl := zTbl_of (zin_3 (List.mem_of_getElem? (i := 29) (by decide +kernel))) rfl
set_option maxRecDepth 20000 in
theorem kd_X2_scoreAll : Cond.code yX2_scoreAll prog_4_method_8_code 3 (Option.none : Option FieldType) ∈ zTbl := zTbl_of (zin_3 (List.mem_of_getElem? (i := 30) rfl)) rfl
theorem wM_X2_85 : Cond.methodLink RX2 85 yX7_isWaiting ∈ zTbl := zTbl_of (zin_3 (List.mem_of_getElem? (i := 31) (by decide +kernel))) rfl
theorem mi_X7_isWaiting : Cond.instanceMethod yX7_isWaiting ∈ zTbl := zTbl_of (zin_3 (List.mem_of_getElem? (i := 32) (by decide +kernel))) rfl
theorem sl_X7_isWaiting : Cond.selects RX7 yX7_isWaiting yX7_isWaiting ∈ zTbl := zTbl_of (zin_3 (List.mem_of_getElem? (i := 33) (by decide +kernel))) rfl
set_option maxRecDepth 20000 in
theorem kd_X7_isWaiting : Cond.code yX7_isWaiting prog_9_method_4_code 2 (Option.some FieldType.boolean) ∈ zTbl := zTbl_of (zin_3 (List.mem_of_getElem? (i := 34) rfl)) rfl
theorem wM_X2_151 : Cond.methodLink RX2 151 yX2_scoreOf ∈ zTbl := zTbl_of (zin_3 (List.mem_of_getElem? (i := 35) (by decide +kernel))) rfl
theorem mi_X2_scoreOf : Cond.instanceMethod yX2_scoreOf ∈ zTbl := zTbl_of (zin_3 (List.mem_of_getElem? (i := 36) (by decide +kernel))) rfl
theorem sl_X2_scoreOf : Cond.selects RX2 yX2_scoreOf yX2_scoreOf ∈ zTbl := zTbl_of (zin_3 (List.mem_of_getElem? (i := 37) (by decide +kernel))) rfl
set_option maxRecDepth 20000 in
theorem kd_X2_scoreOf : Cond.code yX2_scoreOf prog_4_method_7_code 4 (Option.some FieldType.int) ∈ zTbl := zTbl_of (zin_3 (List.mem_of_getElem? (i := 38) rfl)) rfl
theorem wM_X2_123 : Cond.methodLink RX2 123 yX7_last ∈ zTbl := zTbl_of (zin_3 (List.mem_of_getElem? (i := 39) (by decide +kernel))) rfl
theorem mi_X7_last : Cond.instanceMethod yX7_last ∈ zTbl := zTbl_of (zin_3 (List.mem_of_getElem? (i := 40) (by decide +kernel))) rfl
theorem sl_X7_last : Cond.selects RX7 yX7_last yX7_last ∈ zTbl := zTbl_of (zin_3 (List.mem_of_getElem? (i := 41) (by decide +kernel))) rfl
set_option maxRecDepth 20000 in
theorem kd_X7_last : Cond.code yX7_last prog_9_method_7_code 1 (Option.some FieldType.int) ∈ zTbl := zTbl_of (zin_3 (List.mem_of_getElem? (i := 42) rfl)) rfl
theorem wM_X2_127 : Cond.methodLink RX2 127 yX0_differing ∈ zTbl := zTbl_of (zin_3 (List.mem_of_getElem? (i := 43) (by decide +kernel))) rfl
theorem mi_X0_differing : Cond.instanceMethod yX0_differing ∈ zTbl := zTbl_of (zin_3 (List.mem_of_getElem? (i := 44) (by decide +kernel))) rfl
theorem sl_X0_differing : Cond.selects RX0 yX0_differing yX0_differing ∈ zTbl := zTbl_of (zin_3 (List.mem_of_getElem? (i := 45) (by decide +kernel))) rfl
set_option maxRecDepth 20000 in
theorem kd_X0_differing : Cond.code yX0_differing prog_2_method_16_code 4 (Option.some FieldType.int) ∈ zTbl := zTbl_of (zin_3 (List.mem_of_getElem? (i := 46) rfl)) rfl
theorem wM_X0_146 : Cond.methodLink RX0 146 yJ6_bitCount_0f7a4 ∈ zTbl := zTbl_of (zin_3 (List.mem_of_getElem? (i := 47) (by decide +kernel))) rfl
theorem ms_J6_bitCount_0f7a4 : Cond.static yJ6_bitCount_0f7a4 ∈ zTbl := zTbl_of (zin_3 (List.mem_of_getElem? (i := 48) (by decide +kernel))) rfl
set_option maxRecDepth 20000 in
theorem kd_J6_bitCount_0f7a4 : Cond.code yJ6_bitCount_0f7a4 prog_18_method_49_code 1 (Option.some FieldType.int) ∈ zTbl := zTbl_of (zin_3 (List.mem_of_getElem? (i := 49) rfl)) rfl
theorem kC_RJ6_265 : Cond.constant RJ6 265 (1431655765 : Int32) ∈ zTbl := zTbl_of (zin_3 (List.mem_of_getElem? (i := 50) (by decide +kernel))) rfl
theorem kC_RJ6_266 : Cond.constant RJ6 266 (858993459 : Int32) ∈ zTbl := zTbl_of (zin_3 (List.mem_of_getElem? (i := 51) (by decide +kernel))) rfl
theorem kC_RJ6_267 : Cond.constant RJ6 267 (252645135 : Int32) ∈ zTbl := zTbl_of (zin_3 (List.mem_of_getElem? (i := 52) (by decide +kernel))) rfl
theorem wM_X2_133 : Cond.methodLink RX2 133 yX5_setFact ∈ zTbl := zTbl_of (zin_3 (List.mem_of_getElem? (i := 53) (by decide +kernel))) rfl
theorem mi_X5_setFact : Cond.instanceMethod yX5_setFact ∈ zTbl := zTbl_of (zin_3 (List.mem_of_getElem? (i := 54) (by decide +kernel))) rfl
theorem sl_X5_setFact : Cond.selects RX5 yX5_setFact yX5_setFact ∈ zTbl := zTbl_of (zin_3 (List.mem_of_getElem? (i := 55) (by decide +kernel))) rfl
set_option maxRecDepth 20000 in
theorem kd_X5_setFact : Cond.code yX5_setFact prog_7_method_12_code 3 (Option.none : Option FieldType) ∈ zTbl := zTbl_of (zin_3 (List.mem_of_getElem? (i := 56) rfl)) rfl
theorem wN_X5_112 : Cond.methodLinkNest RX5 112 yX9_set "ContraryChairs" ∈ lw_tbl := zin_3 (List.mem_of_getElem? (i := 57) (by decide +kernel))
theorem wM_X2_139 : Cond.methodLink RX2 139 yX0_ageIn ∈ zTbl := zTbl_of (zin_3 (List.mem_of_getElem? (i := 58) (by decide +kernel))) rfl
theorem mi_X0_ageIn : Cond.instanceMethod yX0_ageIn ∈ zTbl := zTbl_of (zin_3 (List.mem_of_getElem? (i := 59) (by decide +kernel))) rfl
theorem sl_X0_ageIn : Cond.selects RX0 yX0_ageIn yX0_ageIn ∈ zTbl := zTbl_of (zin_3 (List.mem_of_getElem? (i := 60) (by decide +kernel))) rfl
set_option maxRecDepth 20000 in
theorem kd_X0_ageIn : Cond.code yX0_ageIn prog_2_method_15_code 3 (Option.some FieldType.int) ∈ zTbl := zTbl_of (zin_3 (List.mem_of_getElem? (i := 61) rfl)) rfl
theorem wM_X2_142 : Cond.methodLink RX2 142 yX5_value ∈ zTbl := zTbl_of (zin_3 (List.mem_of_getElem? (i := 62) (by decide +kernel))) rfl
theorem mi_X5_value : Cond.instanceMethod yX5_value ∈ zTbl := zTbl_of (zin_3 (List.mem_of_getElem? (i := 63) (by decide +kernel))) rfl
theorem sl_X5_value : Cond.selects RX5 yX5_value yX5_value ∈ zTbl := zTbl_of (zin_3 (List.mem_of_getElem? (i := 64) (by decide +kernel))) rfl
set_option maxRecDepth 20000 in
theorem kd_X5_value : Cond.code yX5_value prog_7_method_13_code 4 (Option.some FieldType.int) ∈ zTbl := zTbl_of (zin_3 (List.mem_of_getElem? (i := 65) rfl)) rfl
theorem wM_X5_116 : Cond.methodLink RX5 116 yX5_join ∈ zTbl := zTbl_of (zin_3 (List.mem_of_getElem? (i := 66) (by decide +kernel))) rfl
theorem ms_X5_join : Cond.static yX5_join ∈ zTbl := zTbl_of (zin_3 (List.mem_of_getElem? (i := 67) (by decide +kernel))) rfl
set_option maxRecDepth 20000 in
theorem kd_X5_join : Cond.code yX5_join prog_7_method_14_code 3 (Option.some FieldType.int) ∈ zTbl := zTbl_of (zin_3 (List.mem_of_getElem? (i := 68) rfl)) rfl
theorem wN_X5_120 : Cond.methodLinkNest RX5 120 yX9_get "ContraryChairs" ∈ lw_tbl := zin_3 (List.mem_of_getElem? (i := 69) (by decide +kernel))
theorem wM_X2_145 : Cond.methodLink RX2 145 yX0_praiseTold ∈ zTbl := zTbl_of (zin_3 (List.mem_of_getElem? (i := 70) (by decide +kernel))) rfl
theorem mi_X0_praiseTold : Cond.instanceMethod yX0_praiseTold ∈ zTbl := zTbl_of (zin_3 (List.mem_of_getElem? (i := 71) (by decide +kernel))) rfl
theorem sl_X0_praiseTold : Cond.selects RX0 yX0_praiseTold yX0_praiseTold ∈ zTbl := zTbl_of (zin_3 (List.mem_of_getElem? (i := 72) (by decide +kernel))) rfl
set_option maxRecDepth 20000 in
theorem kd_X0_praiseTold : Cond.code yX0_praiseTold prog_2_method_18_code 5 (Option.some FieldType.int) ∈ zTbl := zTbl_of (zin_3 (List.mem_of_getElem? (i := 73) rfl)) rfl
theorem wM_X2_148 : Cond.methodLink RX2 148 yX7_praiseAside ∈ zTbl := zTbl_of (zin_3 (List.mem_of_getElem? (i := 74) (by decide +kernel))) rfl
theorem mi_X7_praiseAside : Cond.instanceMethod yX7_praiseAside ∈ zTbl := zTbl_of (zin_3 (List.mem_of_getElem? (i := 75) (by decide +kernel))) rfl
theorem sl_X7_praiseAside : Cond.selects RX7 yX7_praiseAside yX7_praiseAside ∈ zTbl := zTbl_of (zin_3 (List.mem_of_getElem? (i := 76) (by decide +kernel))) rfl
set_option maxRecDepth 20000 in
theorem kd_X7_praiseAside : Cond.code yX7_praiseAside prog_9_method_13_code 2 (Option.some FieldType.int) ∈ zTbl := zTbl_of (zin_3 (List.mem_of_getElem? (i := 77) rfl)) rfl
theorem wM_X2_59 : Cond.methodLink RX2 59 yX2_choose ∈ zTbl := zTbl_of (zin_3 (List.mem_of_getElem? (i := 78) (by decide +kernel))) rfl
theorem mi_X2_choose : Cond.instanceMethod yX2_choose ∈ zTbl := zTbl_of (zin_3 (List.mem_of_getElem? (i := 79) (by decide +kernel))) rfl
theorem sl_X2_choose : Cond.selects RX2 yX2_choose yX2_choose ∈ zTbl := zTbl_of (zin_3 (List.mem_of_getElem? (i := 80) (by decide +kernel))) rfl
set_option maxRecDepth 20000 in
theorem kd_X2_choose : Cond.code yX2_choose prog_4_method_9_code 2 (Option.some FieldType.int) ∈ zTbl := zTbl_of (zin_3 (List.mem_of_getElem? (i := 81) rfl)) rfl
theorem wM_X2_154 : Cond.methodLink RX2 154 yX2_eldest ∈ zTbl := zTbl_of (zin_3 (List.mem_of_getElem? (i := 82) (by decide +kernel))) rfl
theorem mi_X2_eldest : Cond.instanceMethod yX2_eldest ∈ zTbl := zTbl_of (zin_3 (List.mem_of_getElem? (i := 84) (by decide +kernel))) rfl
set_option maxRecDepth 20000 in
theorem kd_X2_eldest : Cond.code yX2_eldest prog_4_method_10_code 4 (Option.some FieldType.int) ∈ zTbl := zTbl_of (zin_3 (List.mem_of_getElem? (i := 85) rfl)) rfl
theorem wM_X2_157 : Cond.methodLink RX2 157 yX2_greatest ∈ zTbl := zTbl_of (zin_3 (List.mem_of_getElem? (i := 86) (by decide +kernel))) rfl
theorem mi_X2_greatest : Cond.instanceMethod yX2_greatest ∈ zTbl := zTbl_of (zin_3 (List.mem_of_getElem? (i := 88) (by decide +kernel))) rfl
set_option maxRecDepth 20000 in
theorem kd_X2_greatest : Cond.code yX2_greatest prog_4_method_11_code 6 (Option.some FieldType.int) ∈ zTbl := zTbl_of (zin_3 (List.mem_of_getElem? (i := 89) rfl)) rfl
theorem wM_X2_68 : Cond.methodLink RX2 68 yX7_sitDown ∈ zTbl := zTbl_of (zin_3 (List.mem_of_getElem? (i := 90) (by decide +kernel))) rfl
theorem mi_X7_sitDown : Cond.instanceMethod yX7_sitDown ∈ zTbl := zTbl_of (zin_3 (List.mem_of_getElem? (i := 91) (by decide +kernel))) rfl
theorem sl_X7_sitDown : Cond.selects RX7 yX7_sitDown yX7_sitDown ∈ zTbl := zTbl_of (zin_3 (List.mem_of_getElem? (i := 92) (by decide +kernel))) rfl
set_option maxRecDepth 20000 in
theorem kd_X7_sitDown : Cond.code yX7_sitDown prog_9_method_9_code 3 (Option.none : Option FieldType) ∈ zTbl := zTbl_of (zin_3 (List.mem_of_getElem? (i := 93) rfl)) rfl
theorem wM_L_190 : Cond.methodLink RL 190 yX9_taken ∈ zTbl := zTbl_of (zin_3 (List.mem_of_getElem? (i := 94) (by decide +kernel))) rfl
theorem mi_X9_taken : Cond.instanceMethod yX9_taken ∈ zTbl := zTbl_of (zin_3 (List.mem_of_getElem? (i := 95) (by decide +kernel))) rfl
theorem sl_X9_taken : Cond.selects RX9 yX9_taken yX9_taken ∈ zTbl := zTbl_of (zin_3 (List.mem_of_getElem? (i := 96) (by decide +kernel))) rfl
set_option maxRecDepth 20000 in
theorem kd_X9_taken : Cond.code yX9_taken prog_1_method_17_code 3 (Option.some FieldType.int) ∈ zTbl := zTbl_of (zin_3 (List.mem_of_getElem? (i := 97) rfl)) rfl
theorem wM_X9_191 : Cond.methodLink RX9 191 yX9_get ∈ zTbl := zTbl_of (zin_3 (List.mem_of_getElem? (i := 98) (by decide +kernel))) rfl
theorem wM_L_209 : Cond.methodLink RL 209 yX9_breaks ∈ zTbl := zTbl_of (zin_3 (List.mem_of_getElem? (i := 99) (by decide +kernel))) rfl
theorem mi_X9_breaks : Cond.instanceMethod yX9_breaks ∈ zTbl := zTbl_of (zin_3 (List.mem_of_getElem? (i := 100) (by decide +kernel))) rfl
theorem sl_X9_breaks : Cond.selects RX9 yX9_breaks yX9_breaks ∈ zTbl := zTbl_of (zin_3 (List.mem_of_getElem? (i := 101) (by decide +kernel))) rfl
set_option maxRecDepth 20000 in
theorem kd_X9_breaks : Cond.code yX9_breaks prog_1_method_23_code 1 (Option.some FieldType.int) ∈ zTbl := zTbl_of (zin_3 (List.mem_of_getElem? (i := 102) rfl)) rfl
theorem wM_X9_264 : Cond.methodLink RX9 264 yX4_yearOfEntry ∈ zTbl := zTbl_of (zin_3 (List.mem_of_getElem? (i := 103) (by decide +kernel))) rfl
theorem mi_X4_yearOfEntry : Cond.instanceMethod yX4_yearOfEntry ∈ zTbl := zTbl_of (zin_3 (List.mem_of_getElem? (i := 104) (by decide +kernel))) rfl
theorem sl_X4_yearOfEntry : Cond.selects RX4 yX4_yearOfEntry yX4_yearOfEntry ∈ zTbl := zTbl_of (zin_3 (List.mem_of_getElem? (i := 105) (by decide +kernel))) rfl
set_option maxRecDepth 20000 in
theorem kd_X4_yearOfEntry : Cond.code yX4_yearOfEntry prog_6_method_4_code 3 (Option.some FieldType.int) ∈ zTbl := zTbl_of (zin_3 (List.mem_of_getElem? (i := 106) rfl)) rfl
theorem wM_L_226 : Cond.methodLink RL 226 yX9_right ∈ zTbl := zTbl_of (zin_3 (List.mem_of_getElem? (i := 107) (by decide +kernel))) rfl
theorem mi_X9_right : Cond.instanceMethod yX9_right ∈ zTbl := zTbl_of (zin_3 (List.mem_of_getElem? (i := 108) (by decide +kernel))) rfl
theorem sl_X9_right : Cond.selects RX9 yX9_right yX9_right ∈ zTbl := zTbl_of (zin_3 (List.mem_of_getElem? (i := 109) (by decide +kernel))) rfl
set_option maxRecDepth 20000 in
theorem kd_X9_right : Cond.code yX9_right prog_1_method_28_code 1 (Option.some FieldType.int) ∈ zTbl := zTbl_of (zin_3 (List.mem_of_getElem? (i := 110) rfl)) rfl
theorem wM_X9_286 : Cond.methodLink RX9 286 yX6_rightLines ∈ zTbl := zTbl_of (zin_3 (List.mem_of_getElem? (i := 111) (by decide +kernel))) rfl
theorem mi_X6_rightLines : Cond.instanceMethod yX6_rightLines ∈ zTbl := zTbl_of (zin_3 (List.mem_of_getElem? (i := 112) (by decide +kernel))) rfl
theorem sl_X6_rightLines : Cond.selects RX6 yX6_rightLines yX6_rightLines ∈ zTbl := zTbl_of (zin_3 (List.mem_of_getElem? (i := 113) (by decide +kernel))) rfl
set_option maxRecDepth 20000 in
theorem kd_X6_rightLines : Cond.code yX6_rightLines prog_8_method_2_code 3 (Option.some FieldType.int) ∈ zTbl := zTbl_of (zin_3 (List.mem_of_getElem? (i := 114) rfl)) rfl
theorem wM_X6_37 : Cond.methodLink RX6 37 yX1_lastYear ∈ zTbl := zTbl_of (zin_3 (List.mem_of_getElem? (i := 115) (by decide +kernel))) rfl
theorem mi_X1_lastYear : Cond.instanceMethod yX1_lastYear ∈ zTbl := zTbl_of (zin_3 (List.mem_of_getElem? (i := 116) (by decide +kernel))) rfl
theorem sl_X1_lastYear : Cond.selects RX1 yX1_lastYear yX1_lastYear ∈ zTbl := zTbl_of (zin_3 (List.mem_of_getElem? (i := 117) (by decide +kernel))) rfl
set_option maxRecDepth 20000 in
theorem kd_X1_lastYear : Cond.code yX1_lastYear prog_3_method_5_code 3 (Option.some FieldType.int) ∈ zTbl := zTbl_of (zin_3 (List.mem_of_getElem? (i := 118) rfl)) rfl
theorem wN_X1_70 : Cond.methodLinkNest RX1 70 yX9_get "ContraryChairs" ∈ lw_tbl := zin_3 (List.mem_of_getElem? (i := 119) (by decide +kernel))
theorem wM_X1_74 : Cond.methodLink RX1 74 yJ9_max_7cf53 ∈ zTbl := zTbl_of (zin_3 (List.mem_of_getElem? (i := 120) (by decide +kernel))) rfl
theorem ms_J9_max_7cf53 : Cond.static yJ9_max_7cf53 ∈ zTbl := zTbl_of (zin_3 (List.mem_of_getElem? (i := 121) (by decide +kernel))) rfl
set_option maxRecDepth 20000 in
theorem kd_J9_max_7cf53 : Cond.code yJ9_max_7cf53 prog_19_method_65_code 2 (Option.some FieldType.int) ∈ zTbl := zTbl_of (zin_3 (List.mem_of_getElem? (i := 122) rfl)) rfl
theorem wM_X6_43 : Cond.methodLink RX6 43 yX7_open ∈ zTbl := zTbl_of (zin_3 (List.mem_of_getElem? (i := 123) (by decide +kernel))) rfl
theorem mi_X7_open : Cond.instanceMethod yX7_open ∈ zTbl := zTbl_of (zin_3 (List.mem_of_getElem? (i := 124) (by decide +kernel))) rfl
theorem sl_X7_open : Cond.selects RX7 yX7_open yX7_open ∈ zTbl := zTbl_of (zin_3 (List.mem_of_getElem? (i := 125) (by decide +kernel))) rfl
set_option maxRecDepth 20000 in
theorem kd_X7_open : Cond.code yX7_open prog_9_method_2_code 3 (Option.none : Option FieldType) ∈ zTbl := zTbl_of (zin_3 (List.mem_of_getElem? (i := 126) rfl)) rfl
theorem wM_X7_64 : Cond.methodLink RX7 64 yX7_sitDown ∈ zTbl := zTbl_of (zin_3 (List.mem_of_getElem? (i := 127) (by decide +kernel))) rfl
theorem wM_X6_47 : Cond.methodLink RX6 47 yX2_pass ∈ zTbl := zTbl_of (zin_3 (List.mem_of_getElem? (i := 128) (by decide +kernel))) rfl
theorem wN_X6_53 : Cond.methodLinkNest RX6 53 yX9_set "ContraryChairs" ∈ lw_tbl := zin_3 (List.mem_of_getElem? (i := 129) (by decide +kernel))
theorem wN_X6_64 : Cond.methodLinkNest RX6 64 yX9_get "ContraryChairs" ∈ lw_tbl := zin_3 (List.mem_of_getElem? (i := 130) (by decide +kernel))
theorem wM_L_243 : Cond.methodLink RL 243 yX9_middle ∈ zTbl := zTbl_of (zin_3 (List.mem_of_getElem? (i := 131) (by decide +kernel))) rfl
theorem mi_X9_middle : Cond.instanceMethod yX9_middle ∈ zTbl := zTbl_of (zin_3 (List.mem_of_getElem? (i := 132) (by decide +kernel))) rfl
theorem sl_X9_middle : Cond.selects RX9 yX9_middle yX9_middle ∈ zTbl := zTbl_of (zin_3 (List.mem_of_getElem? (i := 133) (by decide +kernel))) rfl
set_option maxRecDepth 20000 in
theorem kd_X9_middle : Cond.code yX9_middle prog_1_method_33_code 1 (Option.some FieldType.int) ∈ zTbl := zTbl_of (zin_3 (List.mem_of_getElem? (i := 134) rfl)) rfl
theorem wM_X9_302 : Cond.methodLink RX9 302 yX3_mostMiddling ∈ zTbl := zTbl_of (zin_3 (List.mem_of_getElem? (i := 135) (by decide +kernel))) rfl
theorem mi_X3_mostMiddling : Cond.instanceMethod yX3_mostMiddling ∈ zTbl := zTbl_of (zin_3 (List.mem_of_getElem? (i := 136) (by decide +kernel))) rfl
theorem sl_X3_mostMiddling : Cond.selects RX3 yX3_mostMiddling yX3_mostMiddling ∈ zTbl := zTbl_of (zin_3 (List.mem_of_getElem? (i := 137) (by decide +kernel))) rfl
set_option maxRecDepth 20000 in
theorem kd_X3_mostMiddling : Cond.code yX3_mostMiddling prog_5_method_13_code 6 (Option.some FieldType.int) ∈ zTbl := zTbl_of (zin_3 (List.mem_of_getElem? (i := 138) rfl)) rfl
theorem wM_X3_54 : Cond.methodLink RX3 54 yX7_onChair ∈ zTbl := zTbl_of (zin_3 (List.mem_of_getElem? (i := 139) (by decide +kernel))) rfl
theorem wM_X3_35 : Cond.methodLink RX3 35 yX0_differing ∈ zTbl := zTbl_of (zin_3 (List.mem_of_getElem? (i := 140) (by decide +kernel))) rfl
theorem wM_L_259 : Cond.methodLink RL 259 yX9_lead ∈ zTbl := zTbl_of (zin_3 (List.mem_of_getElem? (i := 141) (by decide +kernel))) rfl
theorem mi_X9_lead : Cond.instanceMethod yX9_lead ∈ zTbl := zTbl_of (zin_3 (List.mem_of_getElem? (i := 142) (by decide +kernel))) rfl
theorem sl_X9_lead : Cond.selects RX9 yX9_lead yX9_lead ∈ zTbl := zTbl_of (zin_3 (List.mem_of_getElem? (i := 143) (by decide +kernel))) rfl
set_option maxRecDepth 20000 in
theorem kd_X9_lead : Cond.code yX9_lead prog_1_method_38_code 1 (Option.some FieldType.int) ∈ zTbl := zTbl_of (zin_3 (List.mem_of_getElem? (i := 144) rfl)) rfl
theorem wM_X9_317 : Cond.methodLink RX9 317 yX4_leadOfGreatest ∈ zTbl := zTbl_of (zin_3 (List.mem_of_getElem? (i := 145) (by decide +kernel))) rfl
theorem mi_X4_leadOfGreatest : Cond.instanceMethod yX4_leadOfGreatest ∈ zTbl := zTbl_of (zin_3 (List.mem_of_getElem? (i := 146) (by decide +kernel))) rfl
theorem sl_X4_leadOfGreatest : Cond.selects RX4 yX4_leadOfGreatest yX4_leadOfGreatest ∈ zTbl := zTbl_of (zin_3 (List.mem_of_getElem? (i := 147) (by decide +kernel))) rfl
set_option maxRecDepth 20000 in
theorem kd_X4_leadOfGreatest : Cond.code yX4_leadOfGreatest prog_6_method_9_code 6 (Option.some FieldType.int) ∈ zTbl := zTbl_of (zin_3 (List.mem_of_getElem? (i := 148) rfl)) rfl
theorem wM_X4_86 : Cond.methodLink RX4 86 yX7_isWaiting ∈ zTbl := zTbl_of (zin_3 (List.mem_of_getElem? (i := 149) (by decide +kernel))) rfl
theorem wM_X4_83 : Cond.methodLink RX4 83 yX2_scoreOf ∈ zTbl := zTbl_of (zin_3 (List.mem_of_getElem? (i := 150) (by decide +kernel))) rfl
theorem wM_L_272 : Cond.methodLink RL 272 yX9_seams ∈ zTbl := zTbl_of (zin_3 (List.mem_of_getElem? (i := 151) (by decide +kernel))) rfl
theorem mi_X9_seams : Cond.instanceMethod yX9_seams ∈ zTbl := zTbl_of (zin_3 (List.mem_of_getElem? (i := 152) (by decide +kernel))) rfl
theorem sl_X9_seams : Cond.selects RX9 yX9_seams yX9_seams ∈ zTbl := zTbl_of (zin_3 (List.mem_of_getElem? (i := 153) (by decide +kernel))) rfl
set_option maxRecDepth 20000 in
theorem kd_X9_seams : Cond.code yX9_seams prog_1_method_42_code 1 (Option.some FieldType.int) ∈ zTbl := zTbl_of (zin_3 (List.mem_of_getElem? (i := 154) rfl)) rfl
theorem wM_X9_329 : Cond.methodLink RX9 329 yX3_seamChairs ∈ zTbl := zTbl_of (zin_3 (List.mem_of_getElem? (i := 155) (by decide +kernel))) rfl
theorem mi_X3_seamChairs : Cond.instanceMethod yX3_seamChairs ∈ zTbl := zTbl_of (zin_3 (List.mem_of_getElem? (i := 156) (by decide +kernel))) rfl
theorem sl_X3_seamChairs : Cond.selects RX3 yX3_seamChairs yX3_seamChairs ∈ zTbl := zTbl_of (zin_3 (List.mem_of_getElem? (i := 157) (by decide +kernel))) rfl
set_option maxRecDepth 20000 in
theorem kd_X3_seamChairs : Cond.code yX3_seamChairs prog_5_method_18_code 3 (Option.some FieldType.int) ∈ zTbl := zTbl_of (zin_3 (List.mem_of_getElem? (i := 158) rfl)) rfl
theorem wM_X3_95 : Cond.methodLink RX3 95 yX0_believeTheSame ∈ zTbl := zTbl_of (zin_3 (List.mem_of_getElem? (i := 159) (by decide +kernel))) rfl
theorem wM_L_276 : Cond.methodLink RL 276 yX9_ringed ∈ zTbl := zTbl_of (zin_3 (List.mem_of_getElem? (i := 160) (by decide +kernel))) rfl
theorem mi_X9_ringed : Cond.instanceMethod yX9_ringed ∈ zTbl := zTbl_of (zin_3 (List.mem_of_getElem? (i := 161) (by decide +kernel))) rfl
theorem sl_X9_ringed : Cond.selects RX9 yX9_ringed yX9_ringed ∈ zTbl := zTbl_of (zin_3 (List.mem_of_getElem? (i := 162) (by decide +kernel))) rfl
set_option maxRecDepth 20000 in
theorem kd_X9_ringed : Cond.code yX9_ringed prog_1_method_43_code 1 (Option.some FieldType.int) ∈ zTbl := zTbl_of (zin_3 (List.mem_of_getElem? (i := 163) rfl)) rfl
theorem wM_X9_332 : Cond.methodLink RX9 332 yX3_ringedMen ∈ zTbl := zTbl_of (zin_3 (List.mem_of_getElem? (i := 164) (by decide +kernel))) rfl
theorem mi_X3_ringedMen : Cond.instanceMethod yX3_ringedMen ∈ zTbl := zTbl_of (zin_3 (List.mem_of_getElem? (i := 165) (by decide +kernel))) rfl
theorem sl_X3_ringedMen : Cond.selects RX3 yX3_ringedMen yX3_ringedMen ∈ zTbl := zTbl_of (zin_3 (List.mem_of_getElem? (i := 166) (by decide +kernel))) rfl
set_option maxRecDepth 20000 in
theorem kd_X3_ringedMen : Cond.code yX3_ringedMen prog_5_method_5_code 3 (Option.some FieldType.int) ∈ zTbl := zTbl_of (zin_3 (List.mem_of_getElem? (i := 167) rfl)) rfl
theorem wM_X3_51 : Cond.methodLink RX3 51 yX3_comesAgain ∈ zTbl := zTbl_of (zin_3 (List.mem_of_getElem? (i := 168) (by decide +kernel))) rfl
theorem mi_X3_comesAgain : Cond.instanceMethod yX3_comesAgain ∈ zTbl := zTbl_of (zin_3 (List.mem_of_getElem? (i := 170) (by decide +kernel))) rfl
set_option maxRecDepth 20000 in
theorem kd_X3_comesAgain : Cond.code yX3_comesAgain prog_5_method_6_code 4 (Option.some FieldType.boolean) ∈ zTbl := zTbl_of (zin_3 (List.mem_of_getElem? (i := 171) rfl)) rfl
theorem wM_X3_42 : Cond.methodLink RX3 42 yX3_worstEnemy ∈ zTbl := zTbl_of (zin_3 (List.mem_of_getElem? (i := 172) (by decide +kernel))) rfl
theorem mi_X3_worstEnemy : Cond.instanceMethod yX3_worstEnemy ∈ zTbl := zTbl_of (zin_3 (List.mem_of_getElem? (i := 173) (by decide +kernel))) rfl
theorem sl_X3_worstEnemy : Cond.selects RX3 yX3_worstEnemy yX3_worstEnemy ∈ zTbl := zTbl_of (zin_3 (List.mem_of_getElem? (i := 174) (by decide +kernel))) rfl
set_option maxRecDepth 20000 in
theorem kd_X3_worstEnemy : Cond.code yX3_worstEnemy prog_5_method_3_code 6 (Option.some FieldType.int) ∈ zTbl := zTbl_of (zin_3 (List.mem_of_getElem? (i := 175) rfl)) rfl
theorem wM_X3_39 : Cond.methodLink RX3 39 yX7_isAlive ∈ zTbl := zTbl_of (zin_3 (List.mem_of_getElem? (i := 176) (by decide +kernel))) rfl
theorem wM_L_286 : Cond.methodLink RL 286 yX9_kin ∈ zTbl := zTbl_of (zin_3 (List.mem_of_getElem? (i := 177) (by decide +kernel))) rfl
theorem mi_X9_kin : Cond.instanceMethod yX9_kin ∈ zTbl := zTbl_of (zin_3 (List.mem_of_getElem? (i := 178) (by decide +kernel))) rfl
theorem sl_X9_kin : Cond.selects RX9 yX9_kin yX9_kin ∈ zTbl := zTbl_of (zin_3 (List.mem_of_getElem? (i := 179) (by decide +kernel))) rfl
set_option maxRecDepth 20000 in
theorem kd_X9_kin : Cond.code yX9_kin prog_1_method_46_code 1 (Option.some FieldType.int) ∈ zTbl := zTbl_of (zin_3 (List.mem_of_getElem? (i := 180) rfl)) rfl
theorem wM_X9_341 : Cond.methodLink RX9 341 yX3_unlikeRows ∈ zTbl := zTbl_of (zin_3 (List.mem_of_getElem? (i := 181) (by decide +kernel))) rfl
theorem mi_X3_unlikeRows : Cond.instanceMethod yX3_unlikeRows ∈ zTbl := zTbl_of (zin_3 (List.mem_of_getElem? (i := 182) (by decide +kernel))) rfl
theorem sl_X3_unlikeRows : Cond.selects RX3 yX3_unlikeRows yX3_unlikeRows ∈ zTbl := zTbl_of (zin_3 (List.mem_of_getElem? (i := 183) (by decide +kernel))) rfl
set_option maxRecDepth 20000 in
theorem kd_X3_unlikeRows : Cond.code yX3_unlikeRows prog_5_method_20_code 5 (Option.some FieldType.int) ∈ zTbl := zTbl_of (zin_3 (List.mem_of_getElem? (i := 184) rfl)) rfl
theorem wM_L_300 : Cond.methodLink RL 300 yX9_image ∈ zTbl := zTbl_of (zin_3 (List.mem_of_getElem? (i := 185) (by decide +kernel))) rfl
theorem mi_X9_image : Cond.instanceMethod yX9_image ∈ zTbl := zTbl_of (zin_3 (List.mem_of_getElem? (i := 186) (by decide +kernel))) rfl
theorem sl_X9_image : Cond.selects RX9 yX9_image yX9_image ∈ zTbl := zTbl_of (zin_3 (List.mem_of_getElem? (i := 187) (by decide +kernel))) rfl
set_option maxRecDepth 20000 in
theorem kd_X9_image : Cond.code yX9_image prog_1_method_50_code 1 (Option.some FieldType.int) ∈ zTbl := zTbl_of (zin_3 (List.mem_of_getElem? (i := 188) rfl)) rfl
theorem wM_X9_131 : Cond.methodLink RX9 131 yX7_copy ∈ zTbl := zTbl_of (zin_3 (List.mem_of_getElem? (i := 189) (by decide +kernel))) rfl
theorem wM_L_304 : Cond.methodLink RL 304 yX9_restore ∈ zTbl := zTbl_of (zin_3 (List.mem_of_getElem? (i := 190) (by decide +kernel))) rfl
theorem mi_X9_restore : Cond.instanceMethod yX9_restore ∈ zTbl := zTbl_of (zin_3 (List.mem_of_getElem? (i := 191) (by decide +kernel))) rfl
theorem sl_X9_restore : Cond.selects RX9 yX9_restore yX9_restore ∈ zTbl := zTbl_of (zin_3 (List.mem_of_getElem? (i := 192) (by decide +kernel))) rfl
set_option maxRecDepth 20000 in
theorem kd_X9_restore : Cond.code yX9_restore prog_1_method_51_code 1 (Option.some FieldType.int) ∈ zTbl := zTbl_of (zin_3 (List.mem_of_getElem? (i := 193) rfl)) rfl
theorem wM_L_308 : Cond.methodLink RL 308 yX9_status ∈ zTbl := zTbl_of (zin_3 (List.mem_of_getElem? (i := 194) (by decide +kernel))) rfl
theorem mi_X9_status : Cond.instanceMethod yX9_status ∈ zTbl := zTbl_of (zin_3 (List.mem_of_getElem? (i := 195) (by decide +kernel))) rfl
theorem sl_X9_status : Cond.selects RX9 yX9_status yX9_status ∈ zTbl := zTbl_of (zin_3 (List.mem_of_getElem? (i := 196) (by decide +kernel))) rfl
set_option maxRecDepth 20000 in
theorem kd_X9_status : Cond.code yX9_status prog_1_method_52_code 2 (Option.some FieldType.int) ∈ zTbl := zTbl_of (zin_3 (List.mem_of_getElem? (i := 197) rfl)) rfl
theorem wM_L_312 : Cond.methodLink RL 312 yX9_count ∈ zTbl := zTbl_of (zin_3 (List.mem_of_getElem? (i := 198) (by decide +kernel))) rfl
theorem mi_X9_count : Cond.instanceMethod yX9_count ∈ zTbl := zTbl_of (zin_3 (List.mem_of_getElem? (i := 199) (by decide +kernel))) rfl
theorem sl_X9_count : Cond.selects RX9 yX9_count yX9_count ∈ zTbl := zTbl_of (zin_3 (List.mem_of_getElem? (i := 200) (by decide +kernel))) rfl
set_option maxRecDepth 20000 in
theorem kd_X9_count : Cond.code yX9_count prog_1_method_53_code 2 (Option.some FieldType.int) ∈ zTbl := zTbl_of (zin_3 (List.mem_of_getElem? (i := 201) rfl)) rfl
theorem wM_L_138 : Cond.methodLink RL 138 yL_academy ∈ zTbl := zTbl_of (zin_3 (List.mem_of_getElem? (i := 202) (by decide +kernel))) rfl
theorem ms_L_academy : Cond.static yL_academy ∈ zTbl := zTbl_of (zin_3 (List.mem_of_getElem? (i := 203) (by decide +kernel))) rfl
theorem wM_L_7 : Cond.methodLink RL 7 yX9_academy ∈ zTbl := zTbl_of (zin_3 (List.mem_of_getElem? (i := 206) (by decide +kernel))) rfl
theorem mi_X9_academy : Cond.instanceMethod yX9_academy ∈ zTbl := zTbl_of (zin_3 (List.mem_of_getElem? (i := 207) (by decide +kernel))) rfl
theorem sl_X9_academy : Cond.selects RX9 yX9_academy yX9_academy ∈ zTbl := zTbl_of (zin_3 (List.mem_of_getElem? (i := 208) (by decide +kernel))) rfl
set_option maxRecDepth 20000 in
theorem kd_X9_academy : Cond.code yX9_academy prog_1_method_3_code 2 (Option.some FieldType.int) ∈ zTbl := zTbl_of (zin_3 (List.mem_of_getElem? (i := 209) rfl)) rfl
theorem wM_X9_104 : Cond.methodLink RX9 104 yX9_openText ∈ zTbl := zTbl_of (zin_3 (List.mem_of_getElem? (i := 210) (by decide +kernel))) rfl
theorem mi_X9_openText : Cond.instanceMethod yX9_openText ∈ zTbl := zTbl_of (zin_3 (List.mem_of_getElem? (i := 212) (by decide +kernel))) rfl
set_option maxRecDepth 20000 in
theorem kd_X9_openText : Cond.code yX9_openText prog_1_method_54_code 3 (Option.none : Option FieldType) ∈ zTbl := zTbl_of (zin_3 (List.mem_of_getElem? (i := 213) rfl)) rfl
theorem wM_X9_231 : Cond.methodLink RX9 231 yJ9_min_7cf53 ∈ zTbl := zTbl_of (zin_3 (List.mem_of_getElem? (i := 214) (by decide +kernel))) rfl
theorem ms_J9_min_7cf53 : Cond.static yJ9_min_7cf53 ∈ zTbl := zTbl_of (zin_3 (List.mem_of_getElem? (i := 215) (by decide +kernel))) rfl
set_option maxRecDepth 20000 in
theorem kd_J9_min_7cf53 : Cond.code yJ9_min_7cf53 prog_19_method_69_code 2 (Option.some FieldType.int) ∈ zTbl := zTbl_of (zin_3 (List.mem_of_getElem? (i := 216) rfl)) rfl
theorem wM_X9_150 : Cond.methodLink RX9 150 yX9_within ∈ zTbl := zTbl_of (zin_3 (List.mem_of_getElem? (i := 217) (by decide +kernel))) rfl
theorem ms_X9_within : Cond.static yX9_within ∈ zTbl := zTbl_of (zin_3 (List.mem_of_getElem? (i := 218) (by decide +kernel))) rfl
set_option maxRecDepth 20000 in
theorem kd_X9_within : Cond.code yX9_within prog_1_method_58_code 3 (Option.some FieldType.boolean) ∈ zTbl := zTbl_of (zin_3 (List.mem_of_getElem? (i := 219) rfl)) rfl
theorem wM_X9_154 : Cond.methodLink RX9 154 yX9_need ∈ zTbl := zTbl_of (zin_3 (List.mem_of_getElem? (i := 220) (by decide +kernel))) rfl
theorem mi_X9_need : Cond.instanceMethod yX9_need ∈ zTbl := zTbl_of (zin_3 (List.mem_of_getElem? (i := 222) (by decide +kernel))) rfl
set_option maxRecDepth 20000 in
theorem kd_X9_need : Cond.code yX9_need prog_1_method_57_code 2 (Option.none : Option FieldType) ∈ zTbl := zTbl_of (zin_3 (List.mem_of_getElem? (i := 223) rfl)) rfl
theorem wM_X9_369 : Cond.methodLink RX9 369 yX8_open ∈ zTbl := zTbl_of (zin_4 (List.mem_of_getElem? (i := 46) (by decide +kernel))) rfl
theorem mi_X8_open : Cond.instanceMethod yX8_open ∈ zTbl := zTbl_of (zin_4 (List.mem_of_getElem? (i := 47) (by decide +kernel))) rfl
theorem sl_X8_open : Cond.selects RX8 yX8_open yX8_open ∈ zTbl := zTbl_of (zin_4 (List.mem_of_getElem? (i := 48) (by decide +kernel))) rfl
set_option maxRecDepth 20000 in
theorem kd_X8_open : Cond.code yX8_open prog_10_method_3_code 2 (Option.none : Option FieldType) ∈ zTbl := zTbl_of (zin_4 (List.mem_of_getElem? (i := 49) rfl)) rfl
theorem wM_X9_108 : Cond.methodLink RX9 108 yX0_read ∈ zTbl := zTbl_of (zin_4 (List.mem_of_getElem? (i := 50) (by decide +kernel))) rfl
theorem mi_X0_read : Cond.instanceMethod yX0_read ∈ zTbl := zTbl_of (zin_4 (List.mem_of_getElem? (i := 51) (by decide +kernel))) rfl
theorem sl_X0_read : Cond.selects RX0 yX0_read yX0_read ∈ zTbl := zTbl_of (zin_4 (List.mem_of_getElem? (i := 52) (by decide +kernel))) rfl
set_option maxRecDepth 20000 in
theorem kd_X0_read : Cond.code yX0_read prog_2_method_3_code 3 (Option.none : Option FieldType) ∈ zTbl := zTbl_of (zin_4 (List.mem_of_getElem? (i := 53) rfl)) rfl
theorem wM_X0_68 : Cond.methodLink RX0 68 yX8_look ∈ zTbl := zTbl_of (zin_4 (List.mem_of_getElem? (i := 54) (by decide +kernel))) rfl
theorem mi_X8_look : Cond.instanceMethod yX8_look ∈ zTbl := zTbl_of (zin_4 (List.mem_of_getElem? (i := 55) (by decide +kernel))) rfl
theorem sl_X8_look : Cond.selects RX8 yX8_look yX8_look ∈ zTbl := zTbl_of (zin_4 (List.mem_of_getElem? (i := 56) (by decide +kernel))) rfl
set_option maxRecDepth 20000 in
theorem kd_X8_look : Cond.code yX8_look prog_10_method_5_code 1 (Option.some FieldType.int) ∈ zTbl := zTbl_of (zin_4 (List.mem_of_getElem? (i := 57) rfl)) rfl
theorem wM_X0_74 : Cond.methodLink RX0 74 yX0_readClause ∈ zTbl := zTbl_of (zin_4 (List.mem_of_getElem? (i := 58) (by decide +kernel))) rfl
theorem mi_X0_readClause : Cond.instanceMethod yX0_readClause ∈ zTbl := zTbl_of (zin_4 (List.mem_of_getElem? (i := 60) (by decide +kernel))) rfl
set_option maxRecDepth 20000 in
theorem kd_X0_readClause : Cond.code yX0_readClause prog_2_method_4_code 6 (Option.none : Option FieldType) ∈ zTbl := zTbl_of (zin_4 (List.mem_of_getElem? (i := 61) rfl)) rfl
theorem wM_X0_78 : Cond.methodLink RX0 78 yX8_lookAt ∈ zTbl := zTbl_of (zin_4 (List.mem_of_getElem? (i := 62) (by decide +kernel))) rfl
theorem mi_X8_lookAt : Cond.instanceMethod yX8_lookAt ∈ zTbl := zTbl_of (zin_4 (List.mem_of_getElem? (i := 63) (by decide +kernel))) rfl
theorem sl_X8_lookAt : Cond.selects RX8 yX8_lookAt yX8_lookAt ∈ zTbl := zTbl_of (zin_4 (List.mem_of_getElem? (i := 64) (by decide +kernel))) rfl
set_option maxRecDepth 20000 in
theorem kd_X8_lookAt : Cond.code yX8_lookAt prog_10_method_6_code 1 (Option.some FieldType.int) ∈ zTbl := zTbl_of (zin_4 (List.mem_of_getElem? (i := 65) rfl)) rfl
theorem wM_X8_31 : Cond.methodLink RX8 31 yX8_look ∈ zTbl := zTbl_of (zin_4 (List.mem_of_getElem? (i := 66) (by decide +kernel))) rfl
theorem wM_X0_81 : Cond.methodLink RX0 81 yX0_readKind ∈ zTbl := zTbl_of (zin_4 (List.mem_of_getElem? (i := 67) (by decide +kernel))) rfl
theorem ms_X0_readKind : Cond.static yX0_readKind ∈ zTbl := zTbl_of (zin_4 (List.mem_of_getElem? (i := 68) (by decide +kernel))) rfl
set_option maxRecDepth 20000 in
theorem kd_X0_readKind : Cond.code yX0_readKind prog_2_method_5_code 1 (Option.some FieldType.int) ∈ zTbl := zTbl_of (zin_4 (List.mem_of_getElem? (i := 69) rfl)) rfl
theorem wM_X0_118 : Cond.methodLink RX0 118 yX8_takesWord ∈ zTbl := zTbl_of (zin_4 (List.mem_of_getElem? (i := 71) (by decide +kernel))) rfl
theorem mi_X8_takesWord : Cond.instanceMethod yX8_takesWord ∈ zTbl := zTbl_of (zin_4 (List.mem_of_getElem? (i := 72) (by decide +kernel))) rfl
theorem sl_X8_takesWord : Cond.selects RX8 yX8_takesWord yX8_takesWord ∈ zTbl := zTbl_of (zin_4 (List.mem_of_getElem? (i := 73) (by decide +kernel))) rfl
set_option maxRecDepth 20000 in
theorem kd_X8_takesWord : Cond.code yX8_takesWord prog_10_method_12_code 4 (Option.some FieldType.boolean) ∈ zTbl := zTbl_of (zin_4 (List.mem_of_getElem? (i := 74) rfl)) rfl
theorem wM_X8_46 : Cond.methodLink RX8 46 yX8_byteAt ∈ zTbl := zTbl_of (zin_4 (List.mem_of_getElem? (i := 75) (by decide +kernel))) rfl
theorem mi_X8_byteAt : Cond.instanceMethod yX8_byteAt ∈ zTbl := zTbl_of (zin_4 (List.mem_of_getElem? (i := 77) (by decide +kernel))) rfl
set_option maxRecDepth 20000 in
theorem kd_X8_byteAt : Cond.code yX8_byteAt prog_10_method_14_code 2 (Option.some FieldType.int) ∈ zTbl := zTbl_of (zin_4 (List.mem_of_getElem? (i := 78) rfl)) rfl
theorem wM_X8_35 : Cond.methodLink RX8 35 yX8_isLetter ∈ zTbl := zTbl_of (zin_4 (List.mem_of_getElem? (i := 79) (by decide +kernel))) rfl
theorem ms_X8_isLetter : Cond.static yX8_isLetter ∈ zTbl := zTbl_of (zin_4 (List.mem_of_getElem? (i := 80) (by decide +kernel))) rfl
set_option maxRecDepth 20000 in
theorem kd_X8_isLetter : Cond.code yX8_isLetter prog_10_method_15_code 1 (Option.some FieldType.boolean) ∈ zTbl := zTbl_of (zin_4 (List.mem_of_getElem? (i := 81) rfl)) rfl
theorem wM_X8_50 : Cond.methodLink RX8 50 yJ0_length_8abf5 ∈ zTbl := zTbl_of (zin_4 (List.mem_of_getElem? (i := 82) (by decide +kernel))) rfl
theorem mi_J0_length_8abf5 : Cond.instanceMethod yJ0_length_8abf5 ∈ zTbl := zTbl_of (zin_4 (List.mem_of_getElem? (i := 83) (by decide +kernel))) rfl
theorem sl_J0_length_8abf5 : Cond.selects RJ0 yJ0_length_8abf5 yJ0_length_8abf5 ∈ zTbl := zTbl_of (zin_4 (List.mem_of_getElem? (i := 84) (by decide +kernel))) rfl
set_option maxRecDepth 20000 in
theorem kd_J0_length_8abf5 : Cond.code yJ0_length_8abf5 prog_21_method_54_code 1 (Option.some FieldType.int) ∈ zTbl := zTbl_of (zin_4 (List.mem_of_getElem? (i := 85) rfl)) rfl
theorem wM_J0_335 : Cond.methodLink RJ0 335 yJ0_coder_7d493 ∈ zTbl := zTbl_of (zin_4 (List.mem_of_getElem? (i := 86) (by decide +kernel))) rfl
theorem mi_J0_coder_7d493 : Cond.instanceMethod yJ0_coder_7d493 ∈ zTbl := zTbl_of (zin_4 (List.mem_of_getElem? (i := 87) (by decide +kernel))) rfl
theorem sl_J0_coder_7d493 : Cond.selects RJ0 yJ0_coder_7d493 yJ0_coder_7d493 ∈ zTbl := zTbl_of (zin_4 (List.mem_of_getElem? (i := 88) (by decide +kernel))) rfl
set_option maxRecDepth 20000 in
theorem kd_J0_coder_7d493 : Cond.code yJ0_coder_7d493 prog_21_method_152_code 1 (Option.some FieldType.byte) ∈ zTbl := zTbl_of (zin_4 (List.mem_of_getElem? (i := 89) rfl)) rfl
theorem wF_J0_38 : Cond.fieldLink RJ0 38 "java/lang/String" "COMPACT_STRINGS" "Z" ∈ zTbl := zTbl_of (zin_4 (List.mem_of_getElem? (i := 90) (by decide +kernel))) rfl
theorem wM_X8_55 : Cond.methodLink RX8 55 yJ0_charAt_5068e ∈ zTbl := zTbl_of (zin_4 (List.mem_of_getElem? (i := 92) (by decide +kernel))) rfl
theorem mi_J0_charAt_5068e : Cond.instanceMethod yJ0_charAt_5068e ∈ zTbl := zTbl_of (zin_4 (List.mem_of_getElem? (i := 93) (by decide +kernel))) rfl
theorem sl_J0_charAt_5068e : Cond.selects RJ0 yJ0_charAt_5068e yJ0_charAt_5068e ∈ zTbl := zTbl_of (zin_4 (List.mem_of_getElem? (i := 94) (by decide +kernel))) rfl
set_option maxRecDepth 20000 in
theorem kd_J0_charAt_5068e : Cond.code yJ0_charAt_5068e prog_21_method_56_code 2 (Option.some FieldType.char) ∈ zTbl := zTbl_of (zin_4 (List.mem_of_getElem? (i := 95) rfl)) rfl
theorem wM_J0_492 : Cond.methodLink RJ0 492 yJ0_isLatin1_aae02 ∈ zTbl := zTbl_of (zin_4 (List.mem_of_getElem? (i := 96) (by decide +kernel))) rfl
theorem mi_J0_isLatin1_aae02 : Cond.instanceMethod yJ0_isLatin1_aae02 ∈ zTbl := zTbl_of (zin_4 (List.mem_of_getElem? (i := 97) (by decide +kernel))) rfl
theorem sl_J0_isLatin1_aae02 : Cond.selects RJ0 yJ0_isLatin1_aae02 yJ0_isLatin1_aae02 ∈ zTbl := zTbl_of (zin_4 (List.mem_of_getElem? (i := 98) (by decide +kernel))) rfl
set_option maxRecDepth 20000 in
theorem kd_J0_isLatin1_aae02 : Cond.code yJ0_isLatin1_aae02 prog_21_method_154_code 1 (Option.some FieldType.boolean) ∈ zTbl := zTbl_of (zin_4 (List.mem_of_getElem? (i := 99) rfl)) rfl
theorem wM_J0_495 : Cond.methodLink RJ0 495 yJ1_charAt_3b067 ∈ zTbl := zTbl_of (zin_4 (List.mem_of_getElem? (i := 100) (by decide +kernel))) rfl
theorem ms_J1_charAt_3b067 : Cond.static yJ1_charAt_3b067 ∈ zTbl := zTbl_of (zin_4 (List.mem_of_getElem? (i := 101) (by decide +kernel))) rfl
set_option maxRecDepth 20000 in
theorem kd_J1_charAt_3b067 : Cond.code yJ1_charAt_3b067 prog_22_method_2_code 2 (Option.some FieldType.char) ∈ zTbl := zTbl_of (zin_4 (List.mem_of_getElem? (i := 102) rfl)) rfl
theorem wM_J1_9 : Cond.methodLink RJ1 9 yJ0_checkIndex_df160 ∈ zTbl := zTbl_of (zin_4 (List.mem_of_getElem? (i := 103) (by decide +kernel))) rfl
theorem ms_J0_checkIndex_df160 : Cond.static yJ0_checkIndex_df160 ∈ zTbl := zTbl_of (zin_4 (List.mem_of_getElem? (i := 104) (by decide +kernel))) rfl
set_option maxRecDepth 20000 in
theorem kd_J0_checkIndex_df160 : Cond.code yJ0_checkIndex_df160 prog_21_method_155_code 2 (Option.none : Option FieldType) ∈ zTbl := zTbl_of (zin_4 (List.mem_of_getElem? (i := 105) rfl)) rfl
theorem wF_J0_1053 : Cond.fieldLink RJ0 1053 "jdk/internal/util/Preconditions" "SIOOBE_FORMATTER" "Ljava/util/function/BiFunction;" ∈ zTbl := zTbl_of (zin_4 (List.mem_of_getElem? (i := 106) (by decide +kernel))) rfl
theorem wM_J0_1059 : Cond.methodLink RJ0 1059 yJ3_checkIndex_8e157 ∈ zTbl := zTbl_of (zin_4 (List.mem_of_getElem? (i := 108) (by decide +kernel))) rfl
theorem ms_J3_checkIndex_8e157 : Cond.static yJ3_checkIndex_8e157 ∈ zTbl := zTbl_of (zin_4 (List.mem_of_getElem? (i := 109) (by decide +kernel))) rfl
set_option maxRecDepth 20000 in
theorem kd_J3_checkIndex_8e157 : Cond.code yJ3_checkIndex_8e157 prog_29_method_11_code 3 (Option.some FieldType.int) ∈ zTbl := zTbl_of (zin_4 (List.mem_of_getElem? (i := 110) rfl)) rfl
theorem wM_J0_498 : Cond.methodLink RJ0 498 yJ2_charAt_3b067 ∈ zTbl := zTbl_of (zin_4 (List.mem_of_getElem? (i := 111) (by decide +kernel))) rfl
theorem ms_J2_charAt_3b067 : Cond.static yJ2_charAt_3b067 ∈ zTbl := zTbl_of (zin_4 (List.mem_of_getElem? (i := 112) (by decide +kernel))) rfl
set_option maxRecDepth 20000 in
theorem kd_J2_charAt_3b067 : Cond.code yJ2_charAt_3b067 prog_23_method_83_code 2 (Option.some FieldType.char) ∈ zTbl := zTbl_of (zin_4 (List.mem_of_getElem? (i := 113) rfl)) rfl
theorem wM_J2_67 : Cond.methodLink RJ2 67 yJ2_checkIndex_2214a ∈ zTbl := zTbl_of (zin_4 (List.mem_of_getElem? (i := 114) (by decide +kernel))) rfl
theorem ms_J2_checkIndex_2214a : Cond.static yJ2_checkIndex_2214a ∈ zTbl := zTbl_of (zin_4 (List.mem_of_getElem? (i := 115) (by decide +kernel))) rfl
set_option maxRecDepth 20000 in
theorem kd_J2_checkIndex_2214a : Cond.code yJ2_checkIndex_2214a prog_23_method_91_code 2 (Option.none : Option FieldType) ∈ zTbl := zTbl_of (zin_4 (List.mem_of_getElem? (i := 116) rfl)) rfl
theorem wM_J2_48 : Cond.methodLink RJ2 48 yJ2_length_9d52b ∈ zTbl := zTbl_of (zin_4 (List.mem_of_getElem? (i := 117) (by decide +kernel))) rfl
theorem ms_J2_length_9d52b : Cond.static yJ2_length_9d52b ∈ zTbl := zTbl_of (zin_4 (List.mem_of_getElem? (i := 118) (by decide +kernel))) rfl
set_option maxRecDepth 20000 in
theorem kd_J2_length_9d52b : Cond.code yJ2_length_9d52b prog_23_method_6_code 1 (Option.some FieldType.int) ∈ zTbl := zTbl_of (zin_4 (List.mem_of_getElem? (i := 119) rfl)) rfl
theorem wM_J2_414 : Cond.methodLink RJ2 414 yJ0_checkIndex_df160 ∈ zTbl := zTbl_of (zin_4 (List.mem_of_getElem? (i := 120) (by decide +kernel))) rfl
theorem wM_J2_71 : Cond.methodLink RJ2 71 yJ2_getChar_3b067 ∈ zTbl := zTbl_of (zin_4 (List.mem_of_getElem? (i := 121) (by decide +kernel))) rfl
theorem ms_J2_getChar_3b067 : Cond.static yJ2_getChar_3b067 ∈ zTbl := zTbl_of (zin_4 (List.mem_of_getElem? (i := 122) (by decide +kernel))) rfl
set_option maxRecDepth 20000 in
theorem kd_J2_getChar_3b067 : Cond.code yJ2_getChar_3b067 prog_23_method_5_code 2 (Option.some FieldType.char) ∈ zTbl := zTbl_of (zin_4 (List.mem_of_getElem? (i := 123) rfl)) rfl
theorem wF_J2_44 : Cond.fieldLink RJ2 44 "java/lang/StringUTF16" "$assertionsDisabled" "Z" ∈ zTbl := zTbl_of (zin_4 (List.mem_of_getElem? (i := 124) (by decide +kernel))) rfl
theorem wF_J2_59 : Cond.fieldLink RJ2 59 "java/lang/StringUTF16" "HI_BYTE_SHIFT" "I" ∈ zTbl := zTbl_of (zin_4 (List.mem_of_getElem? (i := 126) (by decide +kernel))) rfl
theorem wF_J2_63 : Cond.fieldLink RJ2 63 "java/lang/StringUTF16" "LO_BYTE_SHIFT" "I" ∈ zTbl := zTbl_of (zin_4 (List.mem_of_getElem? (i := 128) (by decide +kernel))) rfl
theorem wM_X0_85 : Cond.methodLink RX0 85 yX8_fail ∈ zTbl := zTbl_of (zin_4 (List.mem_of_getElem? (i := 135) (by decide +kernel))) rfl
theorem mi_X8_fail : Cond.instanceMethod yX8_fail ∈ zTbl := zTbl_of (zin_4 (List.mem_of_getElem? (i := 136) (by decide +kernel))) rfl
theorem sl_X8_fail : Cond.selects RX8 yX8_fail yX8_fail ∈ zTbl := zTbl_of (zin_4 (List.mem_of_getElem? (i := 137) (by decide +kernel))) rfl
set_option maxRecDepth 20000 in
theorem kd_X8_fail : Cond.code yX8_fail prog_10_method_4_code 3 (Option.none : Option FieldType) ∈ zTbl := zTbl_of (zin_4 (List.mem_of_getElem? (i := 138) rfl)) rfl
theorem wM_X0_89 : Cond.methodLink RX0 89 yX0_faultOf ∈ zTbl := zTbl_of (zin_4 (List.mem_of_getElem? (i := 139) (by decide +kernel))) rfl
theorem mi_X0_faultOf : Cond.instanceMethod yX0_faultOf ∈ zTbl := zTbl_of (zin_4 (List.mem_of_getElem? (i := 141) (by decide +kernel))) rfl
set_option maxRecDepth 20000 in
theorem kd_X0_faultOf : Cond.code yX0_faultOf prog_2_method_6_code 2 (Option.some FieldType.int) ∈ zTbl := zTbl_of (zin_4 (List.mem_of_getElem? (i := 142) rfl)) rfl
theorem wM_X0_93 : Cond.methodLink RX0 93 yX0_readQuestion ∈ zTbl := zTbl_of (zin_4 (List.mem_of_getElem? (i := 143) (by decide +kernel))) rfl
theorem mi_X0_readQuestion : Cond.instanceMethod yX0_readQuestion ∈ zTbl := zTbl_of (zin_4 (List.mem_of_getElem? (i := 145) (by decide +kernel))) rfl
set_option maxRecDepth 20000 in
theorem kd_X0_readQuestion : Cond.code yX0_readQuestion prog_2_method_7_code 2 (Option.none : Option FieldType) ∈ zTbl := zTbl_of (zin_4 (List.mem_of_getElem? (i := 146) rfl)) rfl
theorem wM_X0_131 : Cond.methodLink RX0 131 yX8_number ∈ zTbl := zTbl_of (zin_4 (List.mem_of_getElem? (i := 147) (by decide +kernel))) rfl
theorem mi_X8_number : Cond.instanceMethod yX8_number ∈ zTbl := zTbl_of (zin_4 (List.mem_of_getElem? (i := 148) (by decide +kernel))) rfl
theorem sl_X8_number : Cond.selects RX8 yX8_number yX8_number ∈ zTbl := zTbl_of (zin_4 (List.mem_of_getElem? (i := 149) (by decide +kernel))) rfl
set_option maxRecDepth 20000 in
theorem kd_X8_number : Cond.code yX8_number prog_10_method_13_code 6 (Option.some FieldType.int) ∈ zTbl := zTbl_of (zin_4 (List.mem_of_getElem? (i := 150) rfl)) rfl
theorem wM_X8_59 : Cond.methodLink RX8 59 yX8_looksAtDigit ∈ zTbl := zTbl_of (zin_4 (List.mem_of_getElem? (i := 151) (by decide +kernel))) rfl
theorem mi_X8_looksAtDigit : Cond.instanceMethod yX8_looksAtDigit ∈ zTbl := zTbl_of (zin_4 (List.mem_of_getElem? (i := 152) (by decide +kernel))) rfl
theorem sl_X8_looksAtDigit : Cond.selects RX8 yX8_looksAtDigit yX8_looksAtDigit ∈ zTbl := zTbl_of (zin_4 (List.mem_of_getElem? (i := 153) (by decide +kernel))) rfl
set_option maxRecDepth 20000 in
theorem kd_X8_looksAtDigit : Cond.code yX8_looksAtDigit prog_10_method_8_code 1 (Option.some FieldType.boolean) ∈ zTbl := zTbl_of (zin_4 (List.mem_of_getElem? (i := 154) rfl)) rfl
theorem wM_X8_39 : Cond.methodLink RX8 39 yX8_isDigit ∈ zTbl := zTbl_of (zin_4 (List.mem_of_getElem? (i := 155) (by decide +kernel))) rfl
theorem ms_X8_isDigit : Cond.static yX8_isDigit ∈ zTbl := zTbl_of (zin_4 (List.mem_of_getElem? (i := 156) (by decide +kernel))) rfl
set_option maxRecDepth 20000 in
theorem kd_X8_isDigit : Cond.code yX8_isDigit prog_10_method_16_code 1 (Option.some FieldType.boolean) ∈ zTbl := zTbl_of (zin_4 (List.mem_of_getElem? (i := 157) rfl)) rfl
theorem wM_X8_63 : Cond.methodLink RX8 63 yX8_misfit ∈ zTbl := zTbl_of (zin_4 (List.mem_of_getElem? (i := 158) (by decide +kernel))) rfl
theorem mi_X8_misfit : Cond.instanceMethod yX8_misfit ∈ zTbl := zTbl_of (zin_4 (List.mem_of_getElem? (i := 159) (by decide +kernel))) rfl
theorem sl_X8_misfit : Cond.selects RX8 yX8_misfit yX8_misfit ∈ zTbl := zTbl_of (zin_4 (List.mem_of_getElem? (i := 160) (by decide +kernel))) rfl
set_option maxRecDepth 20000 in
theorem kd_X8_misfit : Cond.code yX8_misfit prog_10_method_9_code 1 (Option.none : Option FieldType) ∈ zTbl := zTbl_of (zin_4 (List.mem_of_getElem? (i := 161) rfl)) rfl
theorem wM_X8_42 : Cond.methodLink RX8 42 yX8_fail ∈ zTbl := zTbl_of (zin_4 (List.mem_of_getElem? (i := 162) (by decide +kernel))) rfl
theorem kC_RX8_66 : Cond.constant RX8 66 (100000 : Int32) ∈ zTbl := zTbl_of (zin_4 (List.mem_of_getElem? (i := 163) (by decide +kernel))) rfl
theorem wM_X8_67 : Cond.methodLink RX8 67 yJ9_min_7cf53 ∈ zTbl := zTbl_of (zin_4 (List.mem_of_getElem? (i := 164) (by decide +kernel))) rfl
theorem wN_X8_73 : Cond.methodLinkNest RX8 73 yX9_within "ContraryChairs" ∈ lw_tbl := zin_4 (List.mem_of_getElem? (i := 165) (by decide +kernel))
theorem wN_X0_135 : Cond.methodLinkNest RX0 135 yX9_set "ContraryChairs" ∈ lw_tbl := zin_4 (List.mem_of_getElem? (i := 166) (by decide +kernel))
theorem wM_X0_97 : Cond.methodLink RX0 97 yX0_readMan ∈ zTbl := zTbl_of (zin_4 (List.mem_of_getElem? (i := 167) (by decide +kernel))) rfl
theorem mi_X0_readMan : Cond.instanceMethod yX0_readMan ∈ zTbl := zTbl_of (zin_4 (List.mem_of_getElem? (i := 169) (by decide +kernel))) rfl
set_option maxRecDepth 20000 in
theorem kd_X0_readMan : Cond.code yX0_readMan prog_2_method_8_code 4 (Option.none : Option FieldType) ∈ zTbl := zTbl_of (zin_4 (List.mem_of_getElem? (i := 170) rfl)) rfl
theorem wM_X0_100 : Cond.methodLink RX0 100 yX0_readSeat ∈ zTbl := zTbl_of (zin_4 (List.mem_of_getElem? (i := 171) (by decide +kernel))) rfl
theorem mi_X0_readSeat : Cond.instanceMethod yX0_readSeat ∈ zTbl := zTbl_of (zin_4 (List.mem_of_getElem? (i := 173) (by decide +kernel))) rfl
set_option maxRecDepth 20000 in
theorem kd_X0_readSeat : Cond.code yX0_readSeat prog_2_method_9_code 5 (Option.none : Option FieldType) ∈ zTbl := zTbl_of (zin_4 (List.mem_of_getElem? (i := 174) rfl)) rfl
theorem wM_X0_143 : Cond.methodLink RX0 143 yX0_readKnownMan ∈ zTbl := zTbl_of (zin_4 (List.mem_of_getElem? (i := 175) (by decide +kernel))) rfl
theorem mi_X0_readKnownMan : Cond.instanceMethod yX0_readKnownMan ∈ zTbl := zTbl_of (zin_4 (List.mem_of_getElem? (i := 177) (by decide +kernel))) rfl
set_option maxRecDepth 20000 in
theorem kd_X0_readKnownMan : Cond.code yX0_readKnownMan prog_2_method_13_code 2 (Option.some FieldType.int) ∈ zTbl := zTbl_of (zin_4 (List.mem_of_getElem? (i := 178) rfl)) rfl
theorem wM_X0_103 : Cond.methodLink RX0 103 yX0_readChairs ∈ zTbl := zTbl_of (zin_4 (List.mem_of_getElem? (i := 179) (by decide +kernel))) rfl
theorem mi_X0_readChairs : Cond.instanceMethod yX0_readChairs ∈ zTbl := zTbl_of (zin_4 (List.mem_of_getElem? (i := 181) (by decide +kernel))) rfl
set_option maxRecDepth 20000 in
theorem kd_X0_readChairs : Cond.code yX0_readChairs prog_2_method_10_code 2 (Option.none : Option FieldType) ∈ zTbl := zTbl_of (zin_4 (List.mem_of_getElem? (i := 182) rfl)) rfl
theorem wM_X0_106 : Cond.methodLink RX0 106 yX0_readDeath ∈ zTbl := zTbl_of (zin_4 (List.mem_of_getElem? (i := 183) (by decide +kernel))) rfl
theorem mi_X0_readDeath : Cond.instanceMethod yX0_readDeath ∈ zTbl := zTbl_of (zin_4 (List.mem_of_getElem? (i := 185) (by decide +kernel))) rfl
set_option maxRecDepth 20000 in
theorem kd_X0_readDeath : Cond.code yX0_readDeath prog_2_method_11_code 2 (Option.none : Option FieldType) ∈ zTbl := zTbl_of (zin_4 (List.mem_of_getElem? (i := 186) rfl)) rfl
theorem wM_X0_109 : Cond.methodLink RX0 109 yX0_readPraise ∈ zTbl := zTbl_of (zin_4 (List.mem_of_getElem? (i := 187) (by decide +kernel))) rfl
theorem mi_X0_readPraise : Cond.instanceMethod yX0_readPraise ∈ zTbl := zTbl_of (zin_4 (List.mem_of_getElem? (i := 189) (by decide +kernel))) rfl
set_option maxRecDepth 20000 in
theorem kd_X0_readPraise : Cond.code yX0_readPraise prog_2_method_12_code 2 (Option.none : Option FieldType) ∈ zTbl := zTbl_of (zin_4 (List.mem_of_getElem? (i := 190) rfl)) rfl
theorem wM_X0_112 : Cond.methodLink RX0 112 yX8_sign ∈ zTbl := zTbl_of (zin_4 (List.mem_of_getElem? (i := 191) (by decide +kernel))) rfl
theorem mi_X8_sign : Cond.instanceMethod yX8_sign ∈ zTbl := zTbl_of (zin_4 (List.mem_of_getElem? (i := 192) (by decide +kernel))) rfl
theorem sl_X8_sign : Cond.selects RX8 yX8_sign yX8_sign ∈ zTbl := zTbl_of (zin_4 (List.mem_of_getElem? (i := 193) (by decide +kernel))) rfl
set_option maxRecDepth 20000 in
theorem kd_X8_sign : Cond.code yX8_sign prog_10_method_11_code 2 (Option.none : Option FieldType) ∈ zTbl := zTbl_of (zin_4 (List.mem_of_getElem? (i := 194) rfl)) rfl
theorem wM_X9_115 : Cond.methodLink RX9 115 yX0_copy ∈ zTbl := zTbl_of (zin_4 (List.mem_of_getElem? (i := 195) (by decide +kernel))) rfl
theorem mi_X0_copy : Cond.instanceMethod yX0_copy ∈ zTbl := zTbl_of (zin_4 (List.mem_of_getElem? (i := 196) (by decide +kernel))) rfl
theorem sl_X0_copy : Cond.selects RX0 yX0_copy yX0_copy ∈ zTbl := zTbl_of (zin_4 (List.mem_of_getElem? (i := 197) (by decide +kernel))) rfl
set_option maxRecDepth 20000 in
theorem kd_X0_copy : Cond.code yX0_copy prog_2_method_2_code 2 (Option.none : Option FieldType) ∈ zTbl := zTbl_of (zin_4 (List.mem_of_getElem? (i := 198) rfl)) rfl
theorem wM_X0_58 : Cond.methodLink RX0 58 arraycopyName ∈ zTbl := zTbl_of (zin_4 (List.mem_of_getElem? (i := 199) (by decide +kernel))) rfl
theorem wM_X9_119 : Cond.methodLink RX9 119 yX5_beUsual ∈ zTbl := zTbl_of (zin_4 (List.mem_of_getElem? (i := 200) (by decide +kernel))) rfl
theorem wM_X9_128 : Cond.methodLink RX9 128 yX7_open ∈ zTbl := zTbl_of (zin_4 (List.mem_of_getElem? (i := 201) (by decide +kernel))) rfl
theorem wM_L_148 : Cond.methodLink RL 148 yL_law ∈ zTbl := zTbl_of (zin_4 (List.mem_of_getElem? (i := 202) (by decide +kernel))) rfl
theorem ms_L_law : Cond.static yL_law ∈ zTbl := zTbl_of (zin_4 (List.mem_of_getElem? (i := 203) (by decide +kernel))) rfl
theorem wM_L_15 : Cond.methodLink RL 15 yX9_law ∈ zTbl := zTbl_of (zin_4 (List.mem_of_getElem? (i := 205) (by decide +kernel))) rfl
theorem mi_X9_law : Cond.instanceMethod yX9_law ∈ zTbl := zTbl_of (zin_4 (List.mem_of_getElem? (i := 206) (by decide +kernel))) rfl
theorem sl_X9_law : Cond.selects RX9 yX9_law yX9_law ∈ zTbl := zTbl_of (zin_4 (List.mem_of_getElem? (i := 207) (by decide +kernel))) rfl
set_option maxRecDepth 20000 in
theorem kd_X9_law : Cond.code yX9_law prog_1_method_4_code 2 (Option.some FieldType.int) ∈ zTbl := zTbl_of (zin_4 (List.mem_of_getElem? (i := 208) rfl)) rfl
theorem wM_X9_137 : Cond.methodLink RX9 137 yX5_read ∈ zTbl := zTbl_of (zin_4 (List.mem_of_getElem? (i := 209) (by decide +kernel))) rfl
theorem mi_X5_read : Cond.instanceMethod yX5_read ∈ zTbl := zTbl_of (zin_4 (List.mem_of_getElem? (i := 210) (by decide +kernel))) rfl
theorem sl_X5_read : Cond.selects RX5 yX5_read yX5_read ∈ zTbl := zTbl_of (zin_4 (List.mem_of_getElem? (i := 211) (by decide +kernel))) rfl
set_option maxRecDepth 20000 in
theorem kd_X5_read : Cond.code yX5_read prog_7_method_5_code 2 (Option.none : Option FieldType) ∈ zTbl := zTbl_of (zin_4 (List.mem_of_getElem? (i := 212) rfl)) rfl
theorem wM_X5_38 : Cond.methodLink RX5 38 yX5_readSum ∈ zTbl := zTbl_of (zin_4 (List.mem_of_getElem? (i := 213) (by decide +kernel))) rfl
theorem mi_X5_readSum : Cond.instanceMethod yX5_readSum ∈ zTbl := zTbl_of (zin_4 (List.mem_of_getElem? (i := 215) (by decide +kernel))) rfl
set_option maxRecDepth 20000 in
theorem kd_X5_readSum : Cond.code yX5_readSum prog_7_method_6_code 4 (Option.none : Option FieldType) ∈ zTbl := zTbl_of (zin_4 (List.mem_of_getElem? (i := 216) rfl)) rfl
theorem wM_X5_51 : Cond.methodLink RX5 51 yX5_readProduct ∈ zTbl := zTbl_of (zin_4 (List.mem_of_getElem? (i := 217) (by decide +kernel))) rfl
theorem mi_X5_readProduct : Cond.instanceMethod yX5_readProduct ∈ zTbl := zTbl_of (zin_4 (List.mem_of_getElem? (i := 219) (by decide +kernel))) rfl
set_option maxRecDepth 20000 in
theorem kd_X5_readProduct : Cond.code yX5_readProduct prog_7_method_7_code 4 (Option.none : Option FieldType) ∈ zTbl := zTbl_of (zin_4 (List.mem_of_getElem? (i := 220) rfl)) rfl
theorem wM_X5_58 : Cond.methodLink RX5 58 yX5_readUnit ∈ zTbl := zTbl_of (zin_4 (List.mem_of_getElem? (i := 221) (by decide +kernel))) rfl
theorem mi_X5_readUnit : Cond.instanceMethod yX5_readUnit ∈ zTbl := zTbl_of (zin_4 (List.mem_of_getElem? (i := 223) (by decide +kernel))) rfl
set_option maxRecDepth 20000 in
theorem kd_X5_readUnit : Cond.code yX5_readUnit prog_7_method_8_code 4 (Option.none : Option FieldType) ∈ zTbl := zTbl_of (zin_4 (List.mem_of_getElem? (i := 224) rfl)) rfl
theorem wM_X5_61 : Cond.methodLink RX5 61 yX8_lookAt ∈ zTbl := zTbl_of (zin_4 (List.mem_of_getElem? (i := 225) (by decide +kernel))) rfl
theorem wM_X5_64 : Cond.methodLink RX5 64 yX8_looksAtDigit ∈ zTbl := zTbl_of (zin_4 (List.mem_of_getElem? (i := 226) (by decide +kernel))) rfl
theorem wM_X5_68 : Cond.methodLink RX5 68 yX8_number ∈ zTbl := zTbl_of (zin_4 (List.mem_of_getElem? (i := 227) (by decide +kernel))) rfl
theorem wM_X5_54 : Cond.methodLink RX5 54 yX8_takesSign ∈ zTbl := zTbl_of (zin_4 (List.mem_of_getElem? (i := 228) (by decide +kernel))) rfl
theorem mi_X8_takesSign : Cond.instanceMethod yX8_takesSign ∈ zTbl := zTbl_of (zin_4 (List.mem_of_getElem? (i := 229) (by decide +kernel))) rfl
theorem sl_X8_takesSign : Cond.selects RX8 yX8_takesSign yX8_takesSign ∈ zTbl := zTbl_of (zin_4 (List.mem_of_getElem? (i := 230) (by decide +kernel))) rfl
set_option maxRecDepth 20000 in
theorem kd_X8_takesSign : Cond.code yX8_takesSign prog_10_method_10_code 2 (Option.some FieldType.boolean) ∈ zTbl := zTbl_of (zin_4 (List.mem_of_getElem? (i := 231) rfl)) rfl
theorem wM_X5_72 : Cond.methodLink RX5 72 yX5_readBraced ∈ zTbl := zTbl_of (zin_4 (List.mem_of_getElem? (i := 232) (by decide +kernel))) rfl
theorem mi_X5_readBraced : Cond.instanceMethod yX5_readBraced ∈ zTbl := zTbl_of (zin_4 (List.mem_of_getElem? (i := 234) (by decide +kernel))) rfl
set_option maxRecDepth 20000 in
theorem kd_X5_readBraced : Cond.code yX5_readBraced prog_7_method_9_code 4 (Option.none : Option FieldType) ∈ zTbl := zTbl_of (zin_4 (List.mem_of_getElem? (i := 235) rfl)) rfl
theorem wM_X5_91 : Cond.methodLink RX5 91 yX8_fail ∈ zTbl := zTbl_of (zin_4 (List.mem_of_getElem? (i := 236) (by decide +kernel))) rfl
theorem wM_X5_95 : Cond.methodLink RX5 95 yX8_sign ∈ zTbl := zTbl_of (zin_4 (List.mem_of_getElem? (i := 237) (by decide +kernel))) rfl
theorem wM_X5_78 : Cond.methodLink RX5 78 yX8_takesWord ∈ zTbl := zTbl_of (zin_4 (List.mem_of_getElem? (i := 239) (by decide +kernel))) rfl
theorem wM_X5_82 : Cond.methodLink RX5 82 yX5_readTwo ∈ zTbl := zTbl_of (zin_5 (List.mem_of_getElem? (i := 0) (by decide +kernel))) rfl
theorem mi_X5_readTwo : Cond.instanceMethod yX5_readTwo ∈ zTbl := zTbl_of (zin_5 (List.mem_of_getElem? (i := 2) (by decide +kernel))) rfl
set_option maxRecDepth 20000 in
theorem kd_X5_readTwo : Cond.code yX5_readTwo prog_7_method_10_code 4 (Option.none : Option FieldType) ∈ zTbl := zTbl_of (zin_5 (List.mem_of_getElem? (i := 3) rfl)) rfl
theorem wM_X5_87 : Cond.methodLink RX5 87 yX5_readName ∈ zTbl := zTbl_of (zin_5 (List.mem_of_getElem? (i := 5) (by decide +kernel))) rfl
theorem mi_X5_readName : Cond.instanceMethod yX5_readName ∈ zTbl := zTbl_of (zin_5 (List.mem_of_getElem? (i := 7) (by decide +kernel))) rfl
set_option maxRecDepth 20000 in
theorem kd_X5_readName : Cond.code yX5_readName prog_7_method_11_code 2 (Option.none : Option FieldType) ∈ zTbl := zTbl_of (zin_5 (List.mem_of_getElem? (i := 8) rfl)) rfl
theorem wM_X5_48 : Cond.methodLink RX5 48 yX8_misfit ∈ zTbl := zTbl_of (zin_5 (List.mem_of_getElem? (i := 16) (by decide +kernel))) rfl
theorem wM_X5_42 : Cond.methodLink RX5 42 yX8_look ∈ zTbl := zTbl_of (zin_5 (List.mem_of_getElem? (i := 17) (by decide +kernel))) rfl
theorem wM_X9_138 : Cond.methodLink RX9 138 yX5_copy ∈ zTbl := zTbl_of (zin_5 (List.mem_of_getElem? (i := 18) (by decide +kernel))) rfl
theorem mi_X5_copy : Cond.instanceMethod yX5_copy ∈ zTbl := zTbl_of (zin_5 (List.mem_of_getElem? (i := 19) (by decide +kernel))) rfl
theorem sl_X5_copy : Cond.selects RX5 yX5_copy yX5_copy ∈ zTbl := zTbl_of (zin_5 (List.mem_of_getElem? (i := 20) (by decide +kernel))) rfl
set_option maxRecDepth 20000 in
theorem kd_X5_copy : Cond.code yX5_copy prog_7_method_3_code 2 (Option.none : Option FieldType) ∈ zTbl := zTbl_of (zin_5 (List.mem_of_getElem? (i := 21) rfl)) rfl
theorem wM_X5_32 : Cond.methodLink RX5 32 arraycopyName ∈ zTbl := zTbl_of (zin_5 (List.mem_of_getElem? (i := 22) (by decide +kernel))) rfl
theorem wM_L_151 : Cond.methodLink RL 151 yL_book ∈ zTbl := zTbl_of (zin_5 (List.mem_of_getElem? (i := 23) (by decide +kernel))) rfl
theorem ms_L_book : Cond.static yL_book ∈ zTbl := zTbl_of (zin_5 (List.mem_of_getElem? (i := 24) (by decide +kernel))) rfl
theorem wM_L_18 : Cond.methodLink RL 18 yX9_book ∈ zTbl := zTbl_of (zin_5 (List.mem_of_getElem? (i := 26) (by decide +kernel))) rfl
theorem mi_X9_book : Cond.instanceMethod yX9_book ∈ zTbl := zTbl_of (zin_5 (List.mem_of_getElem? (i := 27) (by decide +kernel))) rfl
theorem sl_X9_book : Cond.selects RX9 yX9_book yX9_book ∈ zTbl := zTbl_of (zin_5 (List.mem_of_getElem? (i := 28) (by decide +kernel))) rfl
set_option maxRecDepth 20000 in
theorem kd_X9_book : Cond.code yX9_book prog_1_method_5_code 2 (Option.some FieldType.int) ∈ zTbl := zTbl_of (zin_5 (List.mem_of_getElem? (i := 29) rfl)) rfl
theorem wM_X9_141 : Cond.methodLink RX9 141 yX1_read ∈ zTbl := zTbl_of (zin_5 (List.mem_of_getElem? (i := 30) (by decide +kernel))) rfl
theorem mi_X1_read : Cond.instanceMethod yX1_read ∈ zTbl := zTbl_of (zin_5 (List.mem_of_getElem? (i := 31) (by decide +kernel))) rfl
theorem sl_X1_read : Cond.selects RX1 yX1_read yX1_read ∈ zTbl := zTbl_of (zin_5 (List.mem_of_getElem? (i := 32) (by decide +kernel))) rfl
set_option maxRecDepth 20000 in
theorem kd_X1_read : Cond.code yX1_read prog_3_method_3_code 4 (Option.none : Option FieldType) ∈ zTbl := zTbl_of (zin_5 (List.mem_of_getElem? (i := 33) rfl)) rfl
theorem wM_X1_28 : Cond.methodLink RX1 28 yX8_look ∈ zTbl := zTbl_of (zin_5 (List.mem_of_getElem? (i := 34) (by decide +kernel))) rfl
theorem wM_X1_34 : Cond.methodLink RX1 34 yX1_readLine ∈ zTbl := zTbl_of (zin_5 (List.mem_of_getElem? (i := 35) (by decide +kernel))) rfl
theorem mi_X1_readLine : Cond.instanceMethod yX1_readLine ∈ zTbl := zTbl_of (zin_5 (List.mem_of_getElem? (i := 37) (by decide +kernel))) rfl
set_option maxRecDepth 20000 in
theorem kd_X1_readLine : Cond.code yX1_readLine prog_3_method_4_code 6 (Option.none : Option FieldType) ∈ zTbl := zTbl_of (zin_5 (List.mem_of_getElem? (i := 38) rfl)) rfl
theorem wM_X1_38 : Cond.methodLink RX1 38 yX8_lookAt ∈ zTbl := zTbl_of (zin_5 (List.mem_of_getElem? (i := 39) (by decide +kernel))) rfl
theorem wM_X1_41 : Cond.methodLink RX1 41 yX8_number ∈ zTbl := zTbl_of (zin_5 (List.mem_of_getElem? (i := 40) (by decide +kernel))) rfl
theorem wM_X1_45 : Cond.methodLink RX1 45 yX8_fail ∈ zTbl := zTbl_of (zin_5 (List.mem_of_getElem? (i := 41) (by decide +kernel))) rfl
theorem wM_X1_49 : Cond.methodLink RX1 49 yX8_looksAtLetter ∈ zTbl := zTbl_of (zin_5 (List.mem_of_getElem? (i := 42) (by decide +kernel))) rfl
theorem mi_X8_looksAtLetter : Cond.instanceMethod yX8_looksAtLetter ∈ zTbl := zTbl_of (zin_5 (List.mem_of_getElem? (i := 43) (by decide +kernel))) rfl
theorem sl_X8_looksAtLetter : Cond.selects RX8 yX8_looksAtLetter yX8_looksAtLetter ∈ zTbl := zTbl_of (zin_5 (List.mem_of_getElem? (i := 44) (by decide +kernel))) rfl
set_option maxRecDepth 20000 in
theorem kd_X8_looksAtLetter : Cond.code yX8_looksAtLetter prog_10_method_7_code 1 (Option.some FieldType.boolean) ∈ zTbl := zTbl_of (zin_5 (List.mem_of_getElem? (i := 45) rfl)) rfl
theorem wM_X1_55 : Cond.methodLink RX1 55 yX8_takesWord ∈ zTbl := zTbl_of (zin_5 (List.mem_of_getElem? (i := 47) (by decide +kernel))) rfl
theorem wM_X1_59 : Cond.methodLink RX1 59 yX8_misfit ∈ zTbl := zTbl_of (zin_5 (List.mem_of_getElem? (i := 48) (by decide +kernel))) rfl
theorem wM_X1_62 : Cond.methodLink RX1 62 yX8_sign ∈ zTbl := zTbl_of (zin_5 (List.mem_of_getElem? (i := 49) (by decide +kernel))) rfl
theorem wN_X1_66 : Cond.methodLinkNest RX1 66 yX9_set "ContraryChairs" ∈ lw_tbl := zin_5 (List.mem_of_getElem? (i := 50) (by decide +kernel))
theorem wM_X9_144 : Cond.methodLink RX9 144 yX1_copy ∈ zTbl := zTbl_of (zin_5 (List.mem_of_getElem? (i := 51) (by decide +kernel))) rfl
theorem mi_X1_copy : Cond.instanceMethod yX1_copy ∈ zTbl := zTbl_of (zin_5 (List.mem_of_getElem? (i := 52) (by decide +kernel))) rfl
theorem sl_X1_copy : Cond.selects RX1 yX1_copy yX1_copy ∈ zTbl := zTbl_of (zin_5 (List.mem_of_getElem? (i := 53) (by decide +kernel))) rfl
set_option maxRecDepth 20000 in
theorem kd_X1_copy : Cond.code yX1_copy prog_3_method_2_code 2 (Option.none : Option FieldType) ∈ zTbl := zTbl_of (zin_5 (List.mem_of_getElem? (i := 54) rfl)) rfl
theorem wM_X1_22 : Cond.methodLink RX1 22 arraycopyName ∈ zTbl := zTbl_of (zin_5 (List.mem_of_getElem? (i := 55) (by decide +kernel))) rfl
theorem wM_L_158 : Cond.methodLink RL 158 yL_told ∈ zTbl := zTbl_of (zin_5 (List.mem_of_getElem? (i := 56) (by decide +kernel))) rfl
theorem ms_L_told : Cond.static yL_told ∈ zTbl := zTbl_of (zin_5 (List.mem_of_getElem? (i := 57) (by decide +kernel))) rfl
theorem wM_L_21 : Cond.methodLink RL 21 yX9_told ∈ zTbl := zTbl_of (zin_5 (List.mem_of_getElem? (i := 59) (by decide +kernel))) rfl
theorem mi_X9_told : Cond.instanceMethod yX9_told ∈ zTbl := zTbl_of (zin_5 (List.mem_of_getElem? (i := 60) (by decide +kernel))) rfl
theorem sl_X9_told : Cond.selects RX9 yX9_told yX9_told ∈ zTbl := zTbl_of (zin_5 (List.mem_of_getElem? (i := 61) (by decide +kernel))) rfl
set_option maxRecDepth 20000 in
theorem kd_X9_told : Cond.code yX9_told prog_1_method_7_code 2 (Option.some FieldType.int) ∈ zTbl := zTbl_of (zin_5 (List.mem_of_getElem? (i := 62) rfl)) rfl
theorem wM_X9_170 : Cond.methodLink RX9 170 yX3_waitingMen ∈ zTbl := zTbl_of (zin_5 (List.mem_of_getElem? (i := 63) (by decide +kernel))) rfl
theorem mi_X3_waitingMen : Cond.instanceMethod yX3_waitingMen ∈ zTbl := zTbl_of (zin_5 (List.mem_of_getElem? (i := 64) (by decide +kernel))) rfl
theorem sl_X3_waitingMen : Cond.selects RX3 yX3_waitingMen yX3_waitingMen ∈ zTbl := zTbl_of (zin_5 (List.mem_of_getElem? (i := 65) (by decide +kernel))) rfl
set_option maxRecDepth 20000 in
theorem kd_X3_waitingMen : Cond.code yX3_waitingMen prog_5_method_2_code 3 (Option.some FieldType.int) ∈ zTbl := zTbl_of (zin_5 (List.mem_of_getElem? (i := 66) rfl)) rfl
theorem wM_X3_29 : Cond.methodLink RX3 29 yX7_isWaiting ∈ zTbl := zTbl_of (zin_5 (List.mem_of_getElem? (i := 67) (by decide +kernel))) rfl
theorem wM_L_161 : Cond.methodLink RL 161 yL_man ∈ zTbl := zTbl_of (zin_5 (List.mem_of_getElem? (i := 68) (by decide +kernel))) rfl
theorem ms_L_man : Cond.static yL_man ∈ zTbl := zTbl_of (zin_5 (List.mem_of_getElem? (i := 69) (by decide +kernel))) rfl
theorem wM_L_24 : Cond.methodLink RL 24 yX9_man ∈ zTbl := zTbl_of (zin_5 (List.mem_of_getElem? (i := 72) (by decide +kernel))) rfl
theorem mi_X9_man : Cond.instanceMethod yX9_man ∈ zTbl := zTbl_of (zin_5 (List.mem_of_getElem? (i := 73) (by decide +kernel))) rfl
theorem sl_X9_man : Cond.selects RX9 yX9_man yX9_man ∈ zTbl := zTbl_of (zin_5 (List.mem_of_getElem? (i := 74) (by decide +kernel))) rfl
set_option maxRecDepth 20000 in
theorem kd_X9_man : Cond.code yX9_man prog_1_method_8_code 3 (Option.some FieldType.int) ∈ zTbl := zTbl_of (zin_5 (List.mem_of_getElem? (i := 75) rfl)) rfl
theorem wM_X9_180 : Cond.methodLink RX9 180 yX9_needMan ∈ zTbl := zTbl_of (zin_5 (List.mem_of_getElem? (i := 76) (by decide +kernel))) rfl
theorem mi_X9_needMan : Cond.instanceMethod yX9_needMan ∈ zTbl := zTbl_of (zin_5 (List.mem_of_getElem? (i := 78) (by decide +kernel))) rfl
set_option maxRecDepth 20000 in
theorem kd_X9_needMan : Cond.code yX9_needMan prog_1_method_55_code 2 (Option.none : Option FieldType) ∈ zTbl := zTbl_of (zin_5 (List.mem_of_getElem? (i := 79) rfl)) rfl
theorem wM_X9_183 : Cond.methodLink RX9 183 yX0_ageIn ∈ zTbl := zTbl_of (zin_5 (List.mem_of_getElem? (i := 95) (by decide +kernel))) rfl
theorem wM_X9_195 : Cond.methodLink RX9 195 yX7_chairOf ∈ zTbl := zTbl_of (zin_5 (List.mem_of_getElem? (i := 96) (by decide +kernel))) rfl
theorem wM_L_165 : Cond.methodLink RL 165 yL_sides ∈ zTbl := zTbl_of (zin_5 (List.mem_of_getElem? (i := 97) (by decide +kernel))) rfl
theorem ms_L_sides : Cond.static yL_sides ∈ zTbl := zTbl_of (zin_5 (List.mem_of_getElem? (i := 98) (by decide +kernel))) rfl
theorem wM_L_30 : Cond.methodLink RL 30 yX9_sides ∈ zTbl := zTbl_of (zin_5 (List.mem_of_getElem? (i := 100) (by decide +kernel))) rfl
theorem mi_X9_sides : Cond.instanceMethod yX9_sides ∈ zTbl := zTbl_of (zin_5 (List.mem_of_getElem? (i := 101) (by decide +kernel))) rfl
theorem sl_X9_sides : Cond.selects RX9 yX9_sides yX9_sides ∈ zTbl := zTbl_of (zin_5 (List.mem_of_getElem? (i := 102) (by decide +kernel))) rfl
set_option maxRecDepth 20000 in
theorem kd_X9_sides : Cond.code yX9_sides prog_1_method_9_code 2 (Option.some FieldType.int) ∈ zTbl := zTbl_of (zin_5 (List.mem_of_getElem? (i := 103) rfl)) rfl
theorem wM_X9_205 : Cond.methodLink RX9 205 yX9_needQuestion ∈ zTbl := zTbl_of (zin_5 (List.mem_of_getElem? (i := 104) (by decide +kernel))) rfl
theorem mi_X9_needQuestion : Cond.instanceMethod yX9_needQuestion ∈ zTbl := zTbl_of (zin_5 (List.mem_of_getElem? (i := 106) (by decide +kernel))) rfl
set_option maxRecDepth 20000 in
theorem kd_X9_needQuestion : Cond.code yX9_needQuestion prog_1_method_56_code 2 (Option.none : Option FieldType) ∈ zTbl := zTbl_of (zin_5 (List.mem_of_getElem? (i := 107) rfl)) rfl
theorem wM_L_168 : Cond.methodLink RL 168 yL_believes ∈ zTbl := zTbl_of (zin_5 (List.mem_of_getElem? (i := 108) (by decide +kernel))) rfl
theorem ms_L_believes : Cond.static yL_believes ∈ zTbl := zTbl_of (zin_5 (List.mem_of_getElem? (i := 109) (by decide +kernel))) rfl
theorem wM_L_33 : Cond.methodLink RL 33 yX9_believes ∈ zTbl := zTbl_of (zin_5 (List.mem_of_getElem? (i := 111) (by decide +kernel))) rfl
theorem mi_X9_believes : Cond.instanceMethod yX9_believes ∈ zTbl := zTbl_of (zin_5 (List.mem_of_getElem? (i := 112) (by decide +kernel))) rfl
theorem sl_X9_believes : Cond.selects RX9 yX9_believes yX9_believes ∈ zTbl := zTbl_of (zin_5 (List.mem_of_getElem? (i := 113) (by decide +kernel))) rfl
set_option maxRecDepth 20000 in
theorem kd_X9_believes : Cond.code yX9_believes prog_1_method_10_code 3 (Option.some FieldType.int) ∈ zTbl := zTbl_of (zin_5 (List.mem_of_getElem? (i := 114) rfl)) rfl
theorem wM_X9_211 : Cond.methodLink RX9 211 yX0_sideOf ∈ zTbl := zTbl_of (zin_5 (List.mem_of_getElem? (i := 115) (by decide +kernel))) rfl
theorem mi_X0_sideOf : Cond.instanceMethod yX0_sideOf ∈ zTbl := zTbl_of (zin_5 (List.mem_of_getElem? (i := 116) (by decide +kernel))) rfl
theorem sl_X0_sideOf : Cond.selects RX0 yX0_sideOf yX0_sideOf ∈ zTbl := zTbl_of (zin_5 (List.mem_of_getElem? (i := 117) (by decide +kernel))) rfl
set_option maxRecDepth 20000 in
theorem kd_X0_sideOf : Cond.code yX0_sideOf prog_2_method_14_code 3 (Option.some FieldType.int) ∈ zTbl := zTbl_of (zin_5 (List.mem_of_getElem? (i := 118) rfl)) rfl
theorem wM_L_171 : Cond.methodLink RL 171 yL_chair ∈ zTbl := zTbl_of (zin_5 (List.mem_of_getElem? (i := 119) (by decide +kernel))) rfl
theorem ms_L_chair : Cond.static yL_chair ∈ zTbl := zTbl_of (zin_5 (List.mem_of_getElem? (i := 120) (by decide +kernel))) rfl
theorem wM_L_36 : Cond.methodLink RL 36 yX9_chair ∈ zTbl := zTbl_of (zin_5 (List.mem_of_getElem? (i := 122) (by decide +kernel))) rfl
theorem mi_X9_chair : Cond.instanceMethod yX9_chair ∈ zTbl := zTbl_of (zin_5 (List.mem_of_getElem? (i := 123) (by decide +kernel))) rfl
theorem sl_X9_chair : Cond.selects RX9 yX9_chair yX9_chair ∈ zTbl := zTbl_of (zin_5 (List.mem_of_getElem? (i := 124) (by decide +kernel))) rfl
set_option maxRecDepth 20000 in
theorem kd_X9_chair : Cond.code yX9_chair prog_1_method_11_code 2 (Option.some FieldType.int) ∈ zTbl := zTbl_of (zin_5 (List.mem_of_getElem? (i := 125) rfl)) rfl
theorem wM_X9_214 : Cond.methodLink RX9 214 yX7_onChair ∈ zTbl := zTbl_of (zin_5 (List.mem_of_getElem? (i := 126) (by decide +kernel))) rfl
theorem wM_L_174 : Cond.methodLink RL 174 yL_differs ∈ zTbl := zTbl_of (zin_5 (List.mem_of_getElem? (i := 127) (by decide +kernel))) rfl
theorem ms_L_differs : Cond.static yL_differs ∈ zTbl := zTbl_of (zin_5 (List.mem_of_getElem? (i := 128) (by decide +kernel))) rfl
theorem wM_L_39 : Cond.methodLink RL 39 yX9_differs ∈ zTbl := zTbl_of (zin_5 (List.mem_of_getElem? (i := 130) (by decide +kernel))) rfl
theorem mi_X9_differs : Cond.instanceMethod yX9_differs ∈ zTbl := zTbl_of (zin_5 (List.mem_of_getElem? (i := 131) (by decide +kernel))) rfl
theorem sl_X9_differs : Cond.selects RX9 yX9_differs yX9_differs ∈ zTbl := zTbl_of (zin_5 (List.mem_of_getElem? (i := 132) (by decide +kernel))) rfl
set_option maxRecDepth 20000 in
theorem kd_X9_differs : Cond.code yX9_differs prog_1_method_12_code 3 (Option.some FieldType.int) ∈ zTbl := zTbl_of (zin_5 (List.mem_of_getElem? (i := 133) rfl)) rfl
theorem wM_X9_217 : Cond.methodLink RX9 217 yX0_differing ∈ zTbl := zTbl_of (zin_5 (List.mem_of_getElem? (i := 134) (by decide +kernel))) rfl
theorem wM_L_177 : Cond.methodLink RL 177 yL_score ∈ zTbl := zTbl_of (zin_5 (List.mem_of_getElem? (i := 135) (by decide +kernel))) rfl
theorem ms_L_score : Cond.static yL_score ∈ zTbl := zTbl_of (zin_5 (List.mem_of_getElem? (i := 136) (by decide +kernel))) rfl
theorem wM_L_42 : Cond.methodLink RL 42 yX9_score ∈ zTbl := zTbl_of (zin_5 (List.mem_of_getElem? (i := 138) (by decide +kernel))) rfl
theorem mi_X9_score : Cond.instanceMethod yX9_score ∈ zTbl := zTbl_of (zin_5 (List.mem_of_getElem? (i := 139) (by decide +kernel))) rfl
theorem sl_X9_score : Cond.selects RX9 yX9_score yX9_score ∈ zTbl := zTbl_of (zin_5 (List.mem_of_getElem? (i := 140) (by decide +kernel))) rfl
set_option maxRecDepth 20000 in
theorem kd_X9_score : Cond.code yX9_score prog_1_method_13_code 2 (Option.some FieldType.int) ∈ zTbl := zTbl_of (zin_5 (List.mem_of_getElem? (i := 141) rfl)) rfl
theorem wM_X9_220 : Cond.methodLink RX9 220 yX2_scoreOf ∈ zTbl := zTbl_of (zin_5 (List.mem_of_getElem? (i := 142) (by decide +kernel))) rfl
theorem wM_L_184 : Cond.methodLink RL 184 yL_years ∈ zTbl := zTbl_of (zin_5 (List.mem_of_getElem? (i := 143) (by decide +kernel))) rfl
theorem ms_L_years : Cond.static yL_years ∈ zTbl := zTbl_of (zin_5 (List.mem_of_getElem? (i := 144) (by decide +kernel))) rfl
theorem wM_L_45 : Cond.methodLink RL 45 yX9_years ∈ zTbl := zTbl_of (zin_5 (List.mem_of_getElem? (i := 146) (by decide +kernel))) rfl
theorem mi_X9_years : Cond.instanceMethod yX9_years ∈ zTbl := zTbl_of (zin_5 (List.mem_of_getElem? (i := 147) (by decide +kernel))) rfl
theorem sl_X9_years : Cond.selects RX9 yX9_years yX9_years ∈ zTbl := zTbl_of (zin_5 (List.mem_of_getElem? (i := 148) (by decide +kernel))) rfl
set_option maxRecDepth 20000 in
theorem kd_X9_years : Cond.code yX9_years prog_1_method_15_code 3 (Option.some FieldType.int) ∈ zTbl := zTbl_of (zin_5 (List.mem_of_getElem? (i := 149) rfl)) rfl
theorem wM_X9_227 : Cond.methodLink RX9 227 yX2_pass ∈ zTbl := zTbl_of (zin_5 (List.mem_of_getElem? (i := 150) (by decide +kernel))) rfl
theorem wM_L_187 : Cond.methodLink RL 187 yL_undo ∈ zTbl := zTbl_of (zin_5 (List.mem_of_getElem? (i := 151) (by decide +kernel))) rfl
theorem ms_L_undo : Cond.static yL_undo ∈ zTbl := zTbl_of (zin_5 (List.mem_of_getElem? (i := 152) (by decide +kernel))) rfl
theorem wM_L_48 : Cond.methodLink RL 48 yX9_undo ∈ zTbl := zTbl_of (zin_5 (List.mem_of_getElem? (i := 154) (by decide +kernel))) rfl
theorem mi_X9_undo : Cond.instanceMethod yX9_undo ∈ zTbl := zTbl_of (zin_5 (List.mem_of_getElem? (i := 155) (by decide +kernel))) rfl
theorem sl_X9_undo : Cond.selects RX9 yX9_undo yX9_undo ∈ zTbl := zTbl_of (zin_5 (List.mem_of_getElem? (i := 156) (by decide +kernel))) rfl
set_option maxRecDepth 20000 in
theorem kd_X9_undo : Cond.code yX9_undo prog_1_method_16_code 5 (Option.some FieldType.int) ∈ zTbl := zTbl_of (zin_5 (List.mem_of_getElem? (i := 157) rfl)) rfl
theorem wM_L_194 : Cond.methodLink RL 194 yL_sums ∈ zTbl := zTbl_of (zin_5 (List.mem_of_getElem? (i := 158) (by decide +kernel))) rfl
theorem ms_L_sums : Cond.static yL_sums ∈ zTbl := zTbl_of (zin_5 (List.mem_of_getElem? (i := 159) (by decide +kernel))) rfl
theorem wM_L_51 : Cond.methodLink RL 51 yX9_sums ∈ zTbl := zTbl_of (zin_5 (List.mem_of_getElem? (i := 161) (by decide +kernel))) rfl
theorem mi_X9_sums : Cond.instanceMethod yX9_sums ∈ zTbl := zTbl_of (zin_5 (List.mem_of_getElem? (i := 162) (by decide +kernel))) rfl
theorem sl_X9_sums : Cond.selects RX9 yX9_sums yX9_sums ∈ zTbl := zTbl_of (zin_5 (List.mem_of_getElem? (i := 163) (by decide +kernel))) rfl
set_option maxRecDepth 20000 in
theorem kd_X9_sums : Cond.code yX9_sums prog_1_method_18_code 2 (Option.some FieldType.int) ∈ zTbl := zTbl_of (zin_5 (List.mem_of_getElem? (i := 164) rfl)) rfl
theorem wM_L_197 : Cond.methodLink RL 197 yL_die ∈ zTbl := zTbl_of (zin_5 (List.mem_of_getElem? (i := 165) (by decide +kernel))) rfl
theorem ms_L_die : Cond.static yL_die ∈ zTbl := zTbl_of (zin_5 (List.mem_of_getElem? (i := 166) (by decide +kernel))) rfl
theorem wM_L_54 : Cond.methodLink RL 54 yX9_die ∈ zTbl := zTbl_of (zin_5 (List.mem_of_getElem? (i := 168) (by decide +kernel))) rfl
theorem mi_X9_die : Cond.instanceMethod yX9_die ∈ zTbl := zTbl_of (zin_5 (List.mem_of_getElem? (i := 169) (by decide +kernel))) rfl
theorem sl_X9_die : Cond.selects RX9 yX9_die yX9_die ∈ zTbl := zTbl_of (zin_5 (List.mem_of_getElem? (i := 170) (by decide +kernel))) rfl
set_option maxRecDepth 20000 in
theorem kd_X9_die : Cond.code yX9_die prog_1_method_19_code 3 (Option.some FieldType.int) ∈ zTbl := zTbl_of (zin_5 (List.mem_of_getElem? (i := 171) rfl)) rfl
theorem wM_X9_248 : Cond.methodLink RX9 248 yX2_kill ∈ zTbl := zTbl_of (zin_5 (List.mem_of_getElem? (i := 172) (by decide +kernel))) rfl
theorem wM_L_200 : Cond.methodLink RL 200 yL_praise ∈ zTbl := zTbl_of (zin_5 (List.mem_of_getElem? (i := 173) (by decide +kernel))) rfl
theorem ms_L_praise : Cond.static yL_praise ∈ zTbl := zTbl_of (zin_5 (List.mem_of_getElem? (i := 174) (by decide +kernel))) rfl
theorem wM_L_57 : Cond.methodLink RL 57 yX9_praise ∈ zTbl := zTbl_of (zin_5 (List.mem_of_getElem? (i := 176) (by decide +kernel))) rfl
theorem mi_X9_praise : Cond.instanceMethod yX9_praise ∈ zTbl := zTbl_of (zin_5 (List.mem_of_getElem? (i := 177) (by decide +kernel))) rfl
theorem sl_X9_praise : Cond.selects RX9 yX9_praise yX9_praise ∈ zTbl := zTbl_of (zin_5 (List.mem_of_getElem? (i := 178) (by decide +kernel))) rfl
set_option maxRecDepth 20000 in
theorem kd_X9_praise : Cond.code yX9_praise prog_1_method_20_code 3 (Option.some FieldType.int) ∈ zTbl := zTbl_of (zin_5 (List.mem_of_getElem? (i := 179) rfl)) rfl
theorem wM_X9_251 : Cond.methodLink RX9 251 yX7_isWaiting ∈ zTbl := zTbl_of (zin_5 (List.mem_of_getElem? (i := 180) (by decide +kernel))) rfl
theorem wM_X9_258 : Cond.methodLink RX9 258 yX7_praiseMore ∈ zTbl := zTbl_of (zin_5 (List.mem_of_getElem? (i := 181) (by decide +kernel))) rfl
theorem mi_X7_praiseMore : Cond.instanceMethod yX7_praiseMore ∈ zTbl := zTbl_of (zin_5 (List.mem_of_getElem? (i := 182) (by decide +kernel))) rfl
theorem sl_X7_praiseMore : Cond.selects RX7 yX7_praiseMore yX7_praiseMore ∈ zTbl := zTbl_of (zin_5 (List.mem_of_getElem? (i := 183) (by decide +kernel))) rfl
set_option maxRecDepth 20000 in
theorem kd_X7_praiseMore : Cond.code yX7_praiseMore prog_9_method_12_code 4 (Option.none : Option FieldType) ∈ zTbl := zTbl_of (zin_5 (List.mem_of_getElem? (i := 184) rfl)) rfl
theorem wM_L_203 : Cond.methodLink RL 203 yL_ahead ∈ zTbl := zTbl_of (zin_5 (List.mem_of_getElem? (i := 185) (by decide +kernel))) rfl
theorem ms_L_ahead : Cond.static yL_ahead ∈ zTbl := zTbl_of (zin_5 (List.mem_of_getElem? (i := 186) (by decide +kernel))) rfl
theorem wM_L_60 : Cond.methodLink RL 60 yX9_ahead ∈ zTbl := zTbl_of (zin_5 (List.mem_of_getElem? (i := 188) (by decide +kernel))) rfl
theorem mi_X9_ahead : Cond.instanceMethod yX9_ahead ∈ zTbl := zTbl_of (zin_5 (List.mem_of_getElem? (i := 189) (by decide +kernel))) rfl
theorem sl_X9_ahead : Cond.selects RX9 yX9_ahead yX9_ahead ∈ zTbl := zTbl_of (zin_5 (List.mem_of_getElem? (i := 190) (by decide +kernel))) rfl
set_option maxRecDepth 20000 in
theorem kd_X9_ahead : Cond.code yX9_ahead prog_1_method_21_code 3 (Option.some FieldType.int) ∈ zTbl := zTbl_of (zin_5 (List.mem_of_getElem? (i := 191) rfl)) rfl
theorem wM_X9_261 : Cond.methodLink RX9 261 yX4_behind ∈ zTbl := zTbl_of (zin_5 (List.mem_of_getElem? (i := 192) (by decide +kernel))) rfl
theorem mi_X4_behind : Cond.instanceMethod yX4_behind ∈ zTbl := zTbl_of (zin_5 (List.mem_of_getElem? (i := 193) (by decide +kernel))) rfl
theorem sl_X4_behind : Cond.selects RX4 yX4_behind yX4_behind ∈ zTbl := zTbl_of (zin_5 (List.mem_of_getElem? (i := 194) (by decide +kernel))) rfl
set_option maxRecDepth 20000 in
theorem kd_X4_behind : Cond.code yX4_behind prog_6_method_3_code 4 (Option.some FieldType.int) ∈ zTbl := zTbl_of (zin_5 (List.mem_of_getElem? (i := 195) rfl)) rfl
theorem wM_X4_53 : Cond.methodLink RX4 53 yX7_last ∈ zTbl := zTbl_of (zin_5 (List.mem_of_getElem? (i := 196) (by decide +kernel))) rfl
theorem wM_L_206 : Cond.methodLink RL 206 yL_when ∈ zTbl := zTbl_of (zin_5 (List.mem_of_getElem? (i := 197) (by decide +kernel))) rfl
theorem ms_L_when : Cond.static yL_when ∈ zTbl := zTbl_of (zin_5 (List.mem_of_getElem? (i := 198) (by decide +kernel))) rfl
theorem wM_L_63 : Cond.methodLink RL 63 yX9_when ∈ zTbl := zTbl_of (zin_5 (List.mem_of_getElem? (i := 200) (by decide +kernel))) rfl
theorem mi_X9_when : Cond.instanceMethod yX9_when ∈ zTbl := zTbl_of (zin_5 (List.mem_of_getElem? (i := 201) (by decide +kernel))) rfl
theorem sl_X9_when : Cond.selects RX9 yX9_when yX9_when ∈ zTbl := zTbl_of (zin_5 (List.mem_of_getElem? (i := 202) (by decide +kernel))) rfl
set_option maxRecDepth 20000 in
theorem kd_X9_when : Cond.code yX9_when prog_1_method_22_code 2 (Option.some FieldType.int) ∈ zTbl := zTbl_of (zin_5 (List.mem_of_getElem? (i := 203) rfl)) rfl
theorem wM_L_213 : Cond.methodLink RL 213 yL_praises ∈ zTbl := zTbl_of (zin_5 (List.mem_of_getElem? (i := 204) (by decide +kernel))) rfl
theorem ms_L_praises : Cond.static yL_praises ∈ zTbl := zTbl_of (zin_5 (List.mem_of_getElem? (i := 205) (by decide +kernel))) rfl
theorem wM_L_66 : Cond.methodLink RL 66 yX9_praises ∈ zTbl := zTbl_of (zin_5 (List.mem_of_getElem? (i := 207) (by decide +kernel))) rfl
theorem mi_X9_praises : Cond.instanceMethod yX9_praises ∈ zTbl := zTbl_of (zin_5 (List.mem_of_getElem? (i := 208) (by decide +kernel))) rfl
theorem sl_X9_praises : Cond.selects RX9 yX9_praises yX9_praises ∈ zTbl := zTbl_of (zin_5 (List.mem_of_getElem? (i := 209) (by decide +kernel))) rfl
set_option maxRecDepth 20000 in
theorem kd_X9_praises : Cond.code yX9_praises prog_1_method_24_code 5 (Option.some FieldType.int) ∈ zTbl := zTbl_of (zin_5 (List.mem_of_getElem? (i := 210) rfl)) rfl
theorem wM_X9_267 : Cond.methodLink RX9 267 yX4_waysToPraise ∈ zTbl := zTbl_of (zin_5 (List.mem_of_getElem? (i := 211) (by decide +kernel))) rfl
theorem mi_X4_waysToPraise : Cond.instanceMethod yX4_waysToPraise ∈ zTbl := zTbl_of (zin_5 (List.mem_of_getElem? (i := 212) (by decide +kernel))) rfl
theorem sl_X4_waysToPraise : Cond.selects RX4 yX4_waysToPraise yX4_waysToPraise ∈ zTbl := zTbl_of (zin_5 (List.mem_of_getElem? (i := 213) (by decide +kernel))) rfl
set_option maxRecDepth 20000 in
theorem kd_X4_waysToPraise : Cond.code yX4_waysToPraise prog_6_method_16_code 8 (Option.some FieldType.int) ∈ zTbl := zTbl_of (zin_5 (List.mem_of_getElem? (i := 214) rfl)) rfl
theorem wN_X4_99 : Cond.methodLinkNest RX4 99 yX9_set "ContraryChairs" ∈ lw_tbl := zin_5 (List.mem_of_getElem? (i := 215) (by decide +kernel))
theorem kC_RX4_126 : Cond.constant RX4 126 (1000000 : Int32) ∈ zTbl := zTbl_of (zin_5 (List.mem_of_getElem? (i := 216) (by decide +kernel))) rfl
theorem wN_X4_70 : Cond.methodLinkNest RX4 70 yX9_get "ContraryChairs" ∈ lw_tbl := zin_5 (List.mem_of_getElem? (i := 217) (by decide +kernel))
theorem wM_X4_127 : Cond.methodLink RX4 127 yX4_isWorthTrying ∈ zTbl := zTbl_of (zin_5 (List.mem_of_getElem? (i := 218) (by decide +kernel))) rfl
theorem mi_X4_isWorthTrying : Cond.instanceMethod yX4_isWorthTrying ∈ zTbl := zTbl_of (zin_5 (List.mem_of_getElem? (i := 220) (by decide +kernel))) rfl
set_option maxRecDepth 20000 in
theorem kd_X4_isWorthTrying : Cond.code yX4_isWorthTrying prog_6_method_17_code 3 (Option.some FieldType.boolean) ∈ zTbl := zTbl_of (zin_5 (List.mem_of_getElem? (i := 221) rfl)) rfl
theorem wM_X4_134 : Cond.methodLink RX4 134 yX4_praisedTill ∈ zTbl := zTbl_of (zin_5 (List.mem_of_getElem? (i := 222) (by decide +kernel))) rfl
theorem mi_X4_praisedTill : Cond.instanceMethod yX4_praisedTill ∈ zTbl := zTbl_of (zin_5 (List.mem_of_getElem? (i := 224) (by decide +kernel))) rfl
set_option maxRecDepth 20000 in
theorem kd_X4_praisedTill : Cond.code yX4_praisedTill prog_6_method_18_code 4 (Option.some FieldType.int) ∈ zTbl := zTbl_of (zin_5 (List.mem_of_getElem? (i := 225) rfl)) rfl
theorem wM_X4_130 : Cond.methodLink RX4 130 yX4_tryChoice ∈ zTbl := zTbl_of (zin_5 (List.mem_of_getElem? (i := 226) (by decide +kernel))) rfl
theorem mi_X4_tryChoice : Cond.instanceMethod yX4_tryChoice ∈ zTbl := zTbl_of (zin_5 (List.mem_of_getElem? (i := 228) (by decide +kernel))) rfl
set_option maxRecDepth 20000 in
theorem kd_X4_tryChoice : Cond.code yX4_tryChoice prog_6_method_19_code 6 (Option.some FieldType.int) ∈ zTbl := zTbl_of (zin_5 (List.mem_of_getElem? (i := 229) rfl)) rfl
theorem wM_X4_138 : Cond.methodLink RX4 138 yX7_praiseMore ∈ zTbl := zTbl_of (zin_5 (List.mem_of_getElem? (i := 230) (by decide +kernel))) rfl
theorem wM_X4_90 : Cond.methodLink RX4 90 yX2_tellDeaths ∈ zTbl := zTbl_of (zin_5 (List.mem_of_getElem? (i := 231) (by decide +kernel))) rfl
theorem wM_X4_141 : Cond.methodLink RX4 141 yX2_settle ∈ zTbl := zTbl_of (zin_5 (List.mem_of_getElem? (i := 232) (by decide +kernel))) rfl
theorem wM_X4_144 : Cond.methodLink RX4 144 yX4_wayTill ∈ zTbl := zTbl_of (zin_5 (List.mem_of_getElem? (i := 233) (by decide +kernel))) rfl
theorem mi_X4_wayTill : Cond.instanceMethod yX4_wayTill ∈ zTbl := zTbl_of (zin_5 (List.mem_of_getElem? (i := 235) (by decide +kernel))) rfl
set_option maxRecDepth 20000 in
theorem kd_X4_wayTill : Cond.code yX4_wayTill prog_6_method_20_code 5 (Option.some FieldType.int) ∈ zTbl := zTbl_of (zin_5 (List.mem_of_getElem? (i := 236) rfl)) rfl
theorem wM_L_217 : Cond.methodLink RL 217 yL_beliefs ∈ zTbl := zTbl_of (zin_5 (List.mem_of_getElem? (i := 237) (by decide +kernel))) rfl
theorem ms_L_beliefs : Cond.static yL_beliefs ∈ zTbl := zTbl_of (zin_5 (List.mem_of_getElem? (i := 238) (by decide +kernel))) rfl
theorem wM_L_70 : Cond.methodLink RL 70 yX9_beliefs ∈ zTbl := zTbl_of (zin_6 (List.mem_of_getElem? (i := 0) (by decide +kernel))) rfl
theorem mi_X9_beliefs : Cond.instanceMethod yX9_beliefs ∈ zTbl := zTbl_of (zin_6 (List.mem_of_getElem? (i := 1) (by decide +kernel))) rfl
theorem sl_X9_beliefs : Cond.selects RX9 yX9_beliefs yX9_beliefs ∈ zTbl := zTbl_of (zin_6 (List.mem_of_getElem? (i := 2) (by decide +kernel))) rfl
set_option maxRecDepth 20000 in
theorem kd_X9_beliefs : Cond.code yX9_beliefs prog_1_method_25_code 3 (Option.some FieldType.int) ∈ zTbl := zTbl_of (zin_6 (List.mem_of_getElem? (i := 3) rfl)) rfl
theorem wM_X9_271 : Cond.methodLink RX9 271 yX6_tryBeliefs ∈ zTbl := zTbl_of (zin_6 (List.mem_of_getElem? (i := 4) (by decide +kernel))) rfl
theorem mi_X6_tryBeliefs : Cond.instanceMethod yX6_tryBeliefs ∈ zTbl := zTbl_of (zin_6 (List.mem_of_getElem? (i := 5) (by decide +kernel))) rfl
theorem sl_X6_tryBeliefs : Cond.selects RX6 yX6_tryBeliefs yX6_tryBeliefs ∈ zTbl := zTbl_of (zin_6 (List.mem_of_getElem? (i := 6) (by decide +kernel))) rfl
set_option maxRecDepth 20000 in
theorem kd_X6_tryBeliefs : Cond.code yX6_tryBeliefs prog_8_method_5_code 5 (Option.none : Option FieldType) ∈ zTbl := zTbl_of (zin_6 (List.mem_of_getElem? (i := 7) rfl)) rfl
theorem wM_X6_86 : Cond.methodLink RX6 86 yX6_holds ∈ zTbl := zTbl_of (zin_6 (List.mem_of_getElem? (i := 8) (by decide +kernel))) rfl
theorem mi_X6_holds : Cond.instanceMethod yX6_holds ∈ zTbl := zTbl_of (zin_6 (List.mem_of_getElem? (i := 10) (by decide +kernel))) rfl
set_option maxRecDepth 20000 in
theorem kd_X6_holds : Cond.code yX6_holds prog_8_method_3_code 5 (Option.some FieldType.boolean) ∈ zTbl := zTbl_of (zin_6 (List.mem_of_getElem? (i := 11) rfl)) rfl
theorem wM_X6_71 : Cond.methodLink RX6 71 yX2_tellDeaths ∈ zTbl := zTbl_of (zin_6 (List.mem_of_getElem? (i := 12) (by decide +kernel))) rfl
theorem wM_X6_75 : Cond.methodLink RX6 75 yX2_kill ∈ zTbl := zTbl_of (zin_6 (List.mem_of_getElem? (i := 13) (by decide +kernel))) rfl
theorem wM_X6_79 : Cond.methodLink RX6 79 yX2_settle ∈ zTbl := zTbl_of (zin_6 (List.mem_of_getElem? (i := 14) (by decide +kernel))) rfl
theorem wM_X6_82 : Cond.methodLink RX6 82 yX1_allows ∈ zTbl := zTbl_of (zin_6 (List.mem_of_getElem? (i := 15) (by decide +kernel))) rfl
theorem mi_X1_allows : Cond.instanceMethod yX1_allows ∈ zTbl := zTbl_of (zin_6 (List.mem_of_getElem? (i := 16) (by decide +kernel))) rfl
theorem sl_X1_allows : Cond.selects RX1 yX1_allows yX1_allows ∈ zTbl := zTbl_of (zin_6 (List.mem_of_getElem? (i := 17) (by decide +kernel))) rfl
set_option maxRecDepth 20000 in
theorem kd_X1_allows : Cond.code yX1_allows prog_3_method_6_code 4 (Option.some FieldType.boolean) ∈ zTbl := zTbl_of (zin_6 (List.mem_of_getElem? (i := 18) rfl)) rfl
theorem wM_X6_103 : Cond.methodLink RX6 103 yX6_noteWay ∈ zTbl := zTbl_of (zin_6 (List.mem_of_getElem? (i := 19) (by decide +kernel))) rfl
theorem mi_X6_noteWay : Cond.instanceMethod yX6_noteWay ∈ zTbl := zTbl_of (zin_6 (List.mem_of_getElem? (i := 21) (by decide +kernel))) rfl
set_option maxRecDepth 20000 in
theorem kd_X6_noteWay : Cond.code yX6_noteWay prog_8_method_6_code 5 (Option.none : Option FieldType) ∈ zTbl := zTbl_of (zin_6 (List.mem_of_getElem? (i := 22) rfl)) rfl
theorem wM_X6_114 : Cond.methodLink RX6 114 yX0_sideOf ∈ zTbl := zTbl_of (zin_6 (List.mem_of_getElem? (i := 23) (by decide +kernel))) rfl
theorem wM_X6_107 : Cond.methodLink RX6 107 yX6_codeBehind ∈ zTbl := zTbl_of (zin_6 (List.mem_of_getElem? (i := 24) (by decide +kernel))) rfl
theorem mi_X6_codeBehind : Cond.instanceMethod yX6_codeBehind ∈ zTbl := zTbl_of (zin_6 (List.mem_of_getElem? (i := 26) (by decide +kernel))) rfl
set_option maxRecDepth 20000 in
theorem kd_X6_codeBehind : Cond.code yX6_codeBehind prog_8_method_7_code 5 (Option.some FieldType.int) ∈ zTbl := zTbl_of (zin_6 (List.mem_of_getElem? (i := 27) rfl)) rfl
theorem wM_L_220 : Cond.methodLink RL 220 yL_sure ∈ zTbl := zTbl_of (zin_6 (List.mem_of_getElem? (i := 28) (by decide +kernel))) rfl
theorem ms_L_sure : Cond.static yL_sure ∈ zTbl := zTbl_of (zin_6 (List.mem_of_getElem? (i := 29) (by decide +kernel))) rfl
theorem wM_L_73 : Cond.methodLink RL 73 yX9_sure ∈ zTbl := zTbl_of (zin_6 (List.mem_of_getElem? (i := 31) (by decide +kernel))) rfl
theorem mi_X9_sure : Cond.instanceMethod yX9_sure ∈ zTbl := zTbl_of (zin_6 (List.mem_of_getElem? (i := 32) (by decide +kernel))) rfl
theorem sl_X9_sure : Cond.selects RX9 yX9_sure yX9_sure ∈ zTbl := zTbl_of (zin_6 (List.mem_of_getElem? (i := 33) (by decide +kernel))) rfl
set_option maxRecDepth 20000 in
theorem kd_X9_sure : Cond.code yX9_sure prog_1_method_26_code 3 (Option.some FieldType.int) ∈ zTbl := zTbl_of (zin_6 (List.mem_of_getElem? (i := 34) rfl)) rfl
theorem wM_X9_280 : Cond.methodLink RX9 280 yX6_onlySide ∈ zTbl := zTbl_of (zin_6 (List.mem_of_getElem? (i := 35) (by decide +kernel))) rfl
theorem mi_X6_onlySide : Cond.instanceMethod yX6_onlySide ∈ zTbl := zTbl_of (zin_6 (List.mem_of_getElem? (i := 36) (by decide +kernel))) rfl
theorem sl_X6_onlySide : Cond.selects RX6 yX6_onlySide yX6_onlySide ∈ zTbl := zTbl_of (zin_6 (List.mem_of_getElem? (i := 37) (by decide +kernel))) rfl
set_option maxRecDepth 20000 in
theorem kd_X6_onlySide : Cond.code yX6_onlySide prog_8_method_8_code 2 (Option.some FieldType.int) ∈ zTbl := zTbl_of (zin_6 (List.mem_of_getElem? (i := 38) rfl)) rfl
theorem wM_L_223 : Cond.methodLink RL 223 yL_dead ∈ zTbl := zTbl_of (zin_6 (List.mem_of_getElem? (i := 39) (by decide +kernel))) rfl
theorem ms_L_dead : Cond.static yL_dead ∈ zTbl := zTbl_of (zin_6 (List.mem_of_getElem? (i := 40) (by decide +kernel))) rfl
theorem wM_L_76 : Cond.methodLink RL 76 yX9_dead ∈ zTbl := zTbl_of (zin_6 (List.mem_of_getElem? (i := 42) (by decide +kernel))) rfl
theorem mi_X9_dead : Cond.instanceMethod yX9_dead ∈ zTbl := zTbl_of (zin_6 (List.mem_of_getElem? (i := 43) (by decide +kernel))) rfl
theorem sl_X9_dead : Cond.selects RX9 yX9_dead yX9_dead ∈ zTbl := zTbl_of (zin_6 (List.mem_of_getElem? (i := 44) (by decide +kernel))) rfl
set_option maxRecDepth 20000 in
theorem kd_X9_dead : Cond.code yX9_dead prog_1_method_27_code 2 (Option.some FieldType.int) ∈ zTbl := zTbl_of (zin_6 (List.mem_of_getElem? (i := 45) rfl)) rfl
theorem wM_X9_283 : Cond.methodLink RX9 283 yX6_deathsThatFit ∈ zTbl := zTbl_of (zin_6 (List.mem_of_getElem? (i := 46) (by decide +kernel))) rfl
theorem mi_X6_deathsThatFit : Cond.instanceMethod yX6_deathsThatFit ∈ zTbl := zTbl_of (zin_6 (List.mem_of_getElem? (i := 47) (by decide +kernel))) rfl
theorem sl_X6_deathsThatFit : Cond.selects RX6 yX6_deathsThatFit yX6_deathsThatFit ∈ zTbl := zTbl_of (zin_6 (List.mem_of_getElem? (i := 48) (by decide +kernel))) rfl
set_option maxRecDepth 20000 in
theorem kd_X6_deathsThatFit : Cond.code yX6_deathsThatFit prog_8_method_4_code 4 (Option.some FieldType.int) ∈ zTbl := zTbl_of (zin_6 (List.mem_of_getElem? (i := 49) rfl)) rfl
theorem kC_RX6_89 : Cond.constant RX6 89 (65536 : Int32) ∈ zTbl := zTbl_of (zin_6 (List.mem_of_getElem? (i := 50) (by decide +kernel))) rfl
theorem wM_L_230 : Cond.methodLink RL 230 yL_enemy ∈ zTbl := zTbl_of (zin_6 (List.mem_of_getElem? (i := 51) (by decide +kernel))) rfl
theorem ms_L_enemy : Cond.static yL_enemy ∈ zTbl := zTbl_of (zin_6 (List.mem_of_getElem? (i := 52) (by decide +kernel))) rfl
theorem wM_L_79 : Cond.methodLink RL 79 yX9_enemy ∈ zTbl := zTbl_of (zin_6 (List.mem_of_getElem? (i := 54) (by decide +kernel))) rfl
theorem mi_X9_enemy : Cond.instanceMethod yX9_enemy ∈ zTbl := zTbl_of (zin_6 (List.mem_of_getElem? (i := 55) (by decide +kernel))) rfl
theorem sl_X9_enemy : Cond.selects RX9 yX9_enemy yX9_enemy ∈ zTbl := zTbl_of (zin_6 (List.mem_of_getElem? (i := 56) (by decide +kernel))) rfl
set_option maxRecDepth 20000 in
theorem kd_X9_enemy : Cond.code yX9_enemy prog_1_method_29_code 2 (Option.some FieldType.int) ∈ zTbl := zTbl_of (zin_6 (List.mem_of_getElem? (i := 57) rfl)) rfl
theorem wM_X9_289 : Cond.methodLink RX9 289 yX3_worstEnemy ∈ zTbl := zTbl_of (zin_6 (List.mem_of_getElem? (i := 58) (by decide +kernel))) rfl
theorem wM_L_233 : Cond.methodLink RL 233 yL_ring ∈ zTbl := zTbl_of (zin_6 (List.mem_of_getElem? (i := 59) (by decide +kernel))) rfl
theorem ms_L_ring : Cond.static yL_ring ∈ zTbl := zTbl_of (zin_6 (List.mem_of_getElem? (i := 60) (by decide +kernel))) rfl
theorem wM_L_82 : Cond.methodLink RL 82 yX9_ring ∈ zTbl := zTbl_of (zin_6 (List.mem_of_getElem? (i := 62) (by decide +kernel))) rfl
theorem mi_X9_ring : Cond.instanceMethod yX9_ring ∈ zTbl := zTbl_of (zin_6 (List.mem_of_getElem? (i := 63) (by decide +kernel))) rfl
theorem sl_X9_ring : Cond.selects RX9 yX9_ring yX9_ring ∈ zTbl := zTbl_of (zin_6 (List.mem_of_getElem? (i := 64) (by decide +kernel))) rfl
set_option maxRecDepth 20000 in
theorem kd_X9_ring : Cond.code yX9_ring prog_1_method_30_code 3 (Option.some FieldType.int) ∈ zTbl := zTbl_of (zin_6 (List.mem_of_getElem? (i := 65) rfl)) rfl
theorem wM_X9_292 : Cond.methodLink RX9 292 yX3_ringFrom ∈ zTbl := zTbl_of (zin_6 (List.mem_of_getElem? (i := 66) (by decide +kernel))) rfl
theorem mi_X3_ringFrom : Cond.instanceMethod yX3_ringFrom ∈ zTbl := zTbl_of (zin_6 (List.mem_of_getElem? (i := 67) (by decide +kernel))) rfl
theorem sl_X3_ringFrom : Cond.selects RX3 yX3_ringFrom yX3_ringFrom ∈ zTbl := zTbl_of (zin_6 (List.mem_of_getElem? (i := 68) (by decide +kernel))) rfl
set_option maxRecDepth 20000 in
theorem kd_X3_ringFrom : Cond.code yX3_ringFrom prog_5_method_4_code 8 (Option.some FieldType.int) ∈ zTbl := zTbl_of (zin_6 (List.mem_of_getElem? (i := 69) rfl)) rfl
theorem wM_X3_46 : Cond.methodLink RX3 46 yJ9_min_7cf53 ∈ zTbl := zTbl_of (zin_6 (List.mem_of_getElem? (i := 70) (by decide +kernel))) rfl
theorem wM_L_236 : Cond.methodLink RL 236 yL_vote ∈ zTbl := zTbl_of (zin_6 (List.mem_of_getElem? (i := 71) (by decide +kernel))) rfl
theorem ms_L_vote : Cond.static yL_vote ∈ zTbl := zTbl_of (zin_6 (List.mem_of_getElem? (i := 72) (by decide +kernel))) rfl
theorem wM_L_85 : Cond.methodLink RL 85 yX9_vote ∈ zTbl := zTbl_of (zin_6 (List.mem_of_getElem? (i := 74) (by decide +kernel))) rfl
theorem mi_X9_vote : Cond.instanceMethod yX9_vote ∈ zTbl := zTbl_of (zin_6 (List.mem_of_getElem? (i := 75) (by decide +kernel))) rfl
theorem sl_X9_vote : Cond.selects RX9 yX9_vote yX9_vote ∈ zTbl := zTbl_of (zin_6 (List.mem_of_getElem? (i := 76) (by decide +kernel))) rfl
set_option maxRecDepth 20000 in
theorem kd_X9_vote : Cond.code yX9_vote prog_1_method_31_code 4 (Option.some FieldType.int) ∈ zTbl := zTbl_of (zin_6 (List.mem_of_getElem? (i := 77) rfl)) rfl
theorem wM_X9_295 : Cond.methodLink RX9 295 yX3_voteBy ∈ zTbl := zTbl_of (zin_6 (List.mem_of_getElem? (i := 78) (by decide +kernel))) rfl
theorem mi_X3_voteBy : Cond.instanceMethod yX3_voteBy ∈ zTbl := zTbl_of (zin_6 (List.mem_of_getElem? (i := 79) (by decide +kernel))) rfl
theorem sl_X3_voteBy : Cond.selects RX3 yX3_voteBy yX3_voteBy ∈ zTbl := zTbl_of (zin_6 (List.mem_of_getElem? (i := 80) (by decide +kernel))) rfl
set_option maxRecDepth 20000 in
theorem kd_X3_voteBy : Cond.code yX3_voteBy prog_5_method_11_code 5 (Option.some FieldType.int) ∈ zTbl := zTbl_of (zin_6 (List.mem_of_getElem? (i := 81) rfl)) rfl
theorem wM_X3_71 : Cond.methodLink RX3 71 yX3_clearTally ∈ zTbl := zTbl_of (zin_6 (List.mem_of_getElem? (i := 82) (by decide +kernel))) rfl
theorem mi_X3_clearTally : Cond.instanceMethod yX3_clearTally ∈ zTbl := zTbl_of (zin_6 (List.mem_of_getElem? (i := 84) (by decide +kernel))) rfl
set_option maxRecDepth 20000 in
theorem kd_X3_clearTally : Cond.code yX3_clearTally prog_5_method_8_code 2 (Option.none : Option FieldType) ∈ zTbl := zTbl_of (zin_6 (List.mem_of_getElem? (i := 85) rfl)) rfl
theorem wM_X3_77 : Cond.methodLink RX3 77 yX3_addToTally ∈ zTbl := zTbl_of (zin_6 (List.mem_of_getElem? (i := 86) (by decide +kernel))) rfl
theorem mi_X3_addToTally : Cond.instanceMethod yX3_addToTally ∈ zTbl := zTbl_of (zin_6 (List.mem_of_getElem? (i := 88) (by decide +kernel))) rfl
set_option maxRecDepth 20000 in
theorem kd_X3_addToTally : Cond.code yX3_addToTally prog_5_method_9_code 4 (Option.none : Option FieldType) ∈ zTbl := zTbl_of (zin_6 (List.mem_of_getElem? (i := 89) rfl)) rfl
theorem wM_X3_60 : Cond.methodLink RX3 60 yX3_sideOnChair ∈ zTbl := zTbl_of (zin_6 (List.mem_of_getElem? (i := 90) (by decide +kernel))) rfl
theorem mi_X3_sideOnChair : Cond.instanceMethod yX3_sideOnChair ∈ zTbl := zTbl_of (zin_6 (List.mem_of_getElem? (i := 92) (by decide +kernel))) rfl
set_option maxRecDepth 20000 in
theorem kd_X3_sideOnChair : Cond.code yX3_sideOnChair prog_5_method_7_code 3 (Option.some FieldType.int) ∈ zTbl := zTbl_of (zin_6 (List.mem_of_getElem? (i := 93) rfl)) rfl
theorem wM_X3_57 : Cond.methodLink RX3 57 yX0_sideOf ∈ zTbl := zTbl_of (zin_6 (List.mem_of_getElem? (i := 94) (by decide +kernel))) rfl
theorem wN_X3_63 : Cond.methodLinkNest RX3 63 yX9_get "ContraryChairs" ∈ lw_tbl := zin_6 (List.mem_of_getElem? (i := 95) (by decide +kernel))
theorem wN_X3_67 : Cond.methodLinkNest RX3 67 yX9_set "ContraryChairs" ∈ lw_tbl := zin_6 (List.mem_of_getElem? (i := 96) (by decide +kernel))
theorem wM_X3_81 : Cond.methodLink RX3 81 yX3_leadingSide ∈ zTbl := zTbl_of (zin_6 (List.mem_of_getElem? (i := 97) (by decide +kernel))) rfl
theorem mi_X3_leadingSide : Cond.instanceMethod yX3_leadingSide ∈ zTbl := zTbl_of (zin_6 (List.mem_of_getElem? (i := 99) (by decide +kernel))) rfl
set_option maxRecDepth 20000 in
theorem kd_X3_leadingSide : Cond.code yX3_leadingSide prog_5_method_10_code 4 (Option.some FieldType.int) ∈ zTbl := zTbl_of (zin_6 (List.mem_of_getElem? (i := 100) rfl)) rfl
theorem wM_L_240 : Cond.methodLink RL 240 yL_skip ∈ zTbl := zTbl_of (zin_6 (List.mem_of_getElem? (i := 101) (by decide +kernel))) rfl
theorem ms_L_skip : Cond.static yL_skip ∈ zTbl := zTbl_of (zin_6 (List.mem_of_getElem? (i := 102) (by decide +kernel))) rfl
theorem wM_L_89 : Cond.methodLink RL 89 yX9_skip ∈ zTbl := zTbl_of (zin_6 (List.mem_of_getElem? (i := 104) (by decide +kernel))) rfl
theorem mi_X9_skip : Cond.instanceMethod yX9_skip ∈ zTbl := zTbl_of (zin_6 (List.mem_of_getElem? (i := 105) (by decide +kernel))) rfl
theorem sl_X9_skip : Cond.selects RX9 yX9_skip yX9_skip ∈ zTbl := zTbl_of (zin_6 (List.mem_of_getElem? (i := 106) (by decide +kernel))) rfl
set_option maxRecDepth 20000 in
theorem kd_X9_skip : Cond.code yX9_skip prog_1_method_32_code 2 (Option.some FieldType.int) ∈ zTbl := zTbl_of (zin_6 (List.mem_of_getElem? (i := 107) rfl)) rfl
theorem wM_X9_299 : Cond.methodLink RX9 299 yX3_longestSkip ∈ zTbl := zTbl_of (zin_6 (List.mem_of_getElem? (i := 108) (by decide +kernel))) rfl
theorem mi_X3_longestSkip : Cond.instanceMethod yX3_longestSkip ∈ zTbl := zTbl_of (zin_6 (List.mem_of_getElem? (i := 109) (by decide +kernel))) rfl
theorem sl_X3_longestSkip : Cond.selects RX3 yX3_longestSkip yX3_longestSkip ∈ zTbl := zTbl_of (zin_6 (List.mem_of_getElem? (i := 110) (by decide +kernel))) rfl
set_option maxRecDepth 20000 in
theorem kd_X3_longestSkip : Cond.code yX3_longestSkip prog_5_method_12_code 7 (Option.some FieldType.int) ∈ zTbl := zTbl_of (zin_6 (List.mem_of_getElem? (i := 111) rfl)) rfl
theorem wM_X3_85 : Cond.methodLink RX3 85 yJ9_max_7cf53 ∈ zTbl := zTbl_of (zin_6 (List.mem_of_getElem? (i := 112) (by decide +kernel))) rfl
theorem wM_L_247 : Cond.methodLink RL 247 yL_flip ∈ zTbl := zTbl_of (zin_6 (List.mem_of_getElem? (i := 113) (by decide +kernel))) rfl
theorem ms_L_flip : Cond.static yL_flip ∈ zTbl := zTbl_of (zin_6 (List.mem_of_getElem? (i := 114) (by decide +kernel))) rfl
theorem wM_L_92 : Cond.methodLink RL 92 yX9_flip ∈ zTbl := zTbl_of (zin_6 (List.mem_of_getElem? (i := 116) (by decide +kernel))) rfl
theorem mi_X9_flip : Cond.instanceMethod yX9_flip ∈ zTbl := zTbl_of (zin_6 (List.mem_of_getElem? (i := 117) (by decide +kernel))) rfl
theorem sl_X9_flip : Cond.selects RX9 yX9_flip yX9_flip ∈ zTbl := zTbl_of (zin_6 (List.mem_of_getElem? (i := 118) (by decide +kernel))) rfl
set_option maxRecDepth 20000 in
theorem kd_X9_flip : Cond.code yX9_flip prog_1_method_34_code 2 (Option.some FieldType.int) ∈ zTbl := zTbl_of (zin_6 (List.mem_of_getElem? (i := 119) rfl)) rfl
theorem wM_X9_305 : Cond.methodLink RX9 305 yX3_fewestToFlip ∈ zTbl := zTbl_of (zin_6 (List.mem_of_getElem? (i := 120) (by decide +kernel))) rfl
theorem mi_X3_fewestToFlip : Cond.instanceMethod yX3_fewestToFlip ∈ zTbl := zTbl_of (zin_6 (List.mem_of_getElem? (i := 121) (by decide +kernel))) rfl
theorem sl_X3_fewestToFlip : Cond.selects RX3 yX3_fewestToFlip yX3_fewestToFlip ∈ zTbl := zTbl_of (zin_6 (List.mem_of_getElem? (i := 122) (by decide +kernel))) rfl
set_option maxRecDepth 20000 in
theorem kd_X3_fewestToFlip : Cond.code yX3_fewestToFlip prog_5_method_14_code 6 (Option.some FieldType.int) ∈ zTbl := zTbl_of (zin_6 (List.mem_of_getElem? (i := 123) rfl)) rfl
theorem wM_X3_88 : Cond.methodLink RX3 88 yX3_voteBy ∈ zTbl := zTbl_of (zin_6 (List.mem_of_getElem? (i := 124) (by decide +kernel))) rfl
theorem wM_X3_92 : Cond.methodLink RX3 92 yX3_leavingFor ∈ zTbl := zTbl_of (zin_6 (List.mem_of_getElem? (i := 125) (by decide +kernel))) rfl
theorem mi_X3_leavingFor : Cond.instanceMethod yX3_leavingFor ∈ zTbl := zTbl_of (zin_6 (List.mem_of_getElem? (i := 127) (by decide +kernel))) rfl
set_option maxRecDepth 20000 in
theorem kd_X3_leavingFor : Cond.code yX3_leavingFor prog_5_method_15_code 5 (Option.some FieldType.int) ∈ zTbl := zTbl_of (zin_6 (List.mem_of_getElem? (i := 128) rfl)) rfl
theorem wM_L_250 : Cond.methodLink RL 250 yL_patrons ∈ zTbl := zTbl_of (zin_6 (List.mem_of_getElem? (i := 129) (by decide +kernel))) rfl
theorem ms_L_patrons : Cond.static yL_patrons ∈ zTbl := zTbl_of (zin_6 (List.mem_of_getElem? (i := 130) (by decide +kernel))) rfl
theorem wM_L_95 : Cond.methodLink RL 95 yX9_patrons ∈ zTbl := zTbl_of (zin_6 (List.mem_of_getElem? (i := 132) (by decide +kernel))) rfl
theorem mi_X9_patrons : Cond.instanceMethod yX9_patrons ∈ zTbl := zTbl_of (zin_6 (List.mem_of_getElem? (i := 133) (by decide +kernel))) rfl
theorem sl_X9_patrons : Cond.selects RX9 yX9_patrons yX9_patrons ∈ zTbl := zTbl_of (zin_6 (List.mem_of_getElem? (i := 134) (by decide +kernel))) rfl
set_option maxRecDepth 20000 in
theorem kd_X9_patrons : Cond.code yX9_patrons prog_1_method_35_code 5 (Option.some FieldType.int) ∈ zTbl := zTbl_of (zin_6 (List.mem_of_getElem? (i := 135) rfl)) rfl
theorem wM_X9_308 : Cond.methodLink RX9 308 yX4_quietPairs ∈ zTbl := zTbl_of (zin_6 (List.mem_of_getElem? (i := 136) (by decide +kernel))) rfl
theorem mi_X4_quietPairs : Cond.instanceMethod yX4_quietPairs ∈ zTbl := zTbl_of (zin_6 (List.mem_of_getElem? (i := 137) (by decide +kernel))) rfl
theorem sl_X4_quietPairs : Cond.selects RX4 yX4_quietPairs yX4_quietPairs ∈ zTbl := zTbl_of (zin_6 (List.mem_of_getElem? (i := 138) (by decide +kernel))) rfl
set_option maxRecDepth 20000 in
theorem kd_X4_quietPairs : Cond.code yX4_quietPairs prog_6_method_13_code 9 (Option.some FieldType.int) ∈ zTbl := zTbl_of (zin_6 (List.mem_of_getElem? (i := 139) rfl)) rfl
theorem wM_X4_103 : Cond.methodLink RX4 103 yX4_scoreThisYear ∈ zTbl := zTbl_of (zin_6 (List.mem_of_getElem? (i := 140) (by decide +kernel))) rfl
theorem mi_X4_scoreThisYear : Cond.instanceMethod yX4_scoreThisYear ∈ zTbl := zTbl_of (zin_6 (List.mem_of_getElem? (i := 142) (by decide +kernel))) rfl
set_option maxRecDepth 20000 in
theorem kd_X4_scoreThisYear : Cond.code yX4_scoreThisYear prog_6_method_10_code 1 (Option.none : Option FieldType) ∈ zTbl := zTbl_of (zin_6 (List.mem_of_getElem? (i := 143) rfl)) rfl
theorem wM_X4_93 : Cond.methodLink RX4 93 yX2_scoreAll ∈ zTbl := zTbl_of (zin_6 (List.mem_of_getElem? (i := 144) (by decide +kernel))) rfl
theorem wM_X4_109 : Cond.methodLink RX4 109 yX4_raise ∈ zTbl := zTbl_of (zin_6 (List.mem_of_getElem? (i := 145) (by decide +kernel))) rfl
theorem mi_X4_raise : Cond.instanceMethod yX4_raise ∈ zTbl := zTbl_of (zin_6 (List.mem_of_getElem? (i := 147) (by decide +kernel))) rfl
set_option maxRecDepth 20000 in
theorem kd_X4_raise : Cond.code yX4_raise prog_6_method_11_code 3 (Option.none : Option FieldType) ∈ zTbl := zTbl_of (zin_6 (List.mem_of_getElem? (i := 148) rfl)) rfl
theorem wM_X4_106 : Cond.methodLink RX4 106 yX2_choose ∈ zTbl := zTbl_of (zin_6 (List.mem_of_getElem? (i := 149) (by decide +kernel))) rfl
theorem wM_X4_113 : Cond.methodLink RX4 113 yX4_isOpen ∈ zTbl := zTbl_of (zin_6 (List.mem_of_getElem? (i := 150) (by decide +kernel))) rfl
theorem mi_X4_isOpen : Cond.instanceMethod yX4_isOpen ∈ zTbl := zTbl_of (zin_6 (List.mem_of_getElem? (i := 152) (by decide +kernel))) rfl
set_option maxRecDepth 20000 in
theorem kd_X4_isOpen : Cond.code yX4_isOpen prog_6_method_14_code 2 (Option.some FieldType.boolean) ∈ zTbl := zTbl_of (zin_6 (List.mem_of_getElem? (i := 153) rfl)) rfl
theorem wM_X4_116 : Cond.methodLink RX4 116 yX4_isQuiet ∈ zTbl := zTbl_of (zin_6 (List.mem_of_getElem? (i := 154) (by decide +kernel))) rfl
theorem mi_X4_isQuiet : Cond.instanceMethod yX4_isQuiet ∈ zTbl := zTbl_of (zin_6 (List.mem_of_getElem? (i := 156) (by decide +kernel))) rfl
set_option maxRecDepth 20000 in
theorem kd_X4_isQuiet : Cond.code yX4_isQuiet prog_6_method_15_code 7 (Option.some FieldType.boolean) ∈ zTbl := zTbl_of (zin_6 (List.mem_of_getElem? (i := 157) rfl)) rfl
theorem wM_L_253 : Cond.methodLink RL 253 yL_allies ∈ zTbl := zTbl_of (zin_6 (List.mem_of_getElem? (i := 158) (by decide +kernel))) rfl
theorem ms_L_allies : Cond.static yL_allies ∈ zTbl := zTbl_of (zin_6 (List.mem_of_getElem? (i := 159) (by decide +kernel))) rfl
theorem wM_L_98 : Cond.methodLink RL 98 yX9_allies ∈ zTbl := zTbl_of (zin_6 (List.mem_of_getElem? (i := 161) (by decide +kernel))) rfl
theorem mi_X9_allies : Cond.instanceMethod yX9_allies ∈ zTbl := zTbl_of (zin_6 (List.mem_of_getElem? (i := 162) (by decide +kernel))) rfl
theorem sl_X9_allies : Cond.selects RX9 yX9_allies yX9_allies ∈ zTbl := zTbl_of (zin_6 (List.mem_of_getElem? (i := 163) (by decide +kernel))) rfl
set_option maxRecDepth 20000 in
theorem kd_X9_allies : Cond.code yX9_allies prog_1_method_36_code 2 (Option.some FieldType.int) ∈ zTbl := zTbl_of (zin_6 (List.mem_of_getElem? (i := 164) rfl)) rfl
theorem wM_X9_311 : Cond.methodLink RX9 311 yX3_alliesOf ∈ zTbl := zTbl_of (zin_6 (List.mem_of_getElem? (i := 165) (by decide +kernel))) rfl
theorem mi_X3_alliesOf : Cond.instanceMethod yX3_alliesOf ∈ zTbl := zTbl_of (zin_6 (List.mem_of_getElem? (i := 166) (by decide +kernel))) rfl
theorem sl_X3_alliesOf : Cond.selects RX3 yX3_alliesOf yX3_alliesOf ∈ zTbl := zTbl_of (zin_6 (List.mem_of_getElem? (i := 167) (by decide +kernel))) rfl
set_option maxRecDepth 20000 in
theorem kd_X3_alliesOf : Cond.code yX3_alliesOf prog_5_method_17_code 4 (Option.some FieldType.int) ∈ zTbl := zTbl_of (zin_6 (List.mem_of_getElem? (i := 168) rfl)) rfl
theorem wM_L_256 : Cond.methodLink RL 256 yL_rank ∈ zTbl := zTbl_of (zin_6 (List.mem_of_getElem? (i := 169) (by decide +kernel))) rfl
theorem ms_L_rank : Cond.static yL_rank ∈ zTbl := zTbl_of (zin_6 (List.mem_of_getElem? (i := 170) (by decide +kernel))) rfl
theorem wM_L_101 : Cond.methodLink RL 101 yX9_rank ∈ zTbl := zTbl_of (zin_6 (List.mem_of_getElem? (i := 172) (by decide +kernel))) rfl
theorem mi_X9_rank : Cond.instanceMethod yX9_rank ∈ zTbl := zTbl_of (zin_6 (List.mem_of_getElem? (i := 173) (by decide +kernel))) rfl
theorem sl_X9_rank : Cond.selects RX9 yX9_rank yX9_rank ∈ zTbl := zTbl_of (zin_6 (List.mem_of_getElem? (i := 174) (by decide +kernel))) rfl
set_option maxRecDepth 20000 in
theorem kd_X9_rank : Cond.code yX9_rank prog_1_method_37_code 2 (Option.some FieldType.int) ∈ zTbl := zTbl_of (zin_6 (List.mem_of_getElem? (i := 175) rfl)) rfl
theorem wM_X9_314 : Cond.methodLink RX9 314 yX4_rankOf ∈ zTbl := zTbl_of (zin_6 (List.mem_of_getElem? (i := 176) (by decide +kernel))) rfl
theorem mi_X4_rankOf : Cond.instanceMethod yX4_rankOf ∈ zTbl := zTbl_of (zin_6 (List.mem_of_getElem? (i := 177) (by decide +kernel))) rfl
theorem sl_X4_rankOf : Cond.selects RX4 yX4_rankOf yX4_rankOf ∈ zTbl := zTbl_of (zin_6 (List.mem_of_getElem? (i := 178) (by decide +kernel))) rfl
set_option maxRecDepth 20000 in
theorem kd_X4_rankOf : Cond.code yX4_rankOf prog_6_method_8_code 5 (Option.some FieldType.int) ∈ zTbl := zTbl_of (zin_6 (List.mem_of_getElem? (i := 179) rfl)) rfl
theorem wM_L_263 : Cond.methodLink RL 263 yL_wants ∈ zTbl := zTbl_of (zin_6 (List.mem_of_getElem? (i := 180) (by decide +kernel))) rfl
theorem ms_L_wants : Cond.static yL_wants ∈ zTbl := zTbl_of (zin_6 (List.mem_of_getElem? (i := 181) (by decide +kernel))) rfl
theorem wM_L_104 : Cond.methodLink RL 104 yX9_wants ∈ zTbl := zTbl_of (zin_6 (List.mem_of_getElem? (i := 183) (by decide +kernel))) rfl
theorem mi_X9_wants : Cond.instanceMethod yX9_wants ∈ zTbl := zTbl_of (zin_6 (List.mem_of_getElem? (i := 184) (by decide +kernel))) rfl
theorem sl_X9_wants : Cond.selects RX9 yX9_wants yX9_wants ∈ zTbl := zTbl_of (zin_6 (List.mem_of_getElem? (i := 185) (by decide +kernel))) rfl
set_option maxRecDepth 20000 in
theorem kd_X9_wants : Cond.code yX9_wants prog_1_method_39_code 2 (Option.some FieldType.int) ∈ zTbl := zTbl_of (zin_6 (List.mem_of_getElem? (i := 186) rfl)) rfl
theorem wM_X9_320 : Cond.methodLink RX9 320 yX4_praiseWanted ∈ zTbl := zTbl_of (zin_6 (List.mem_of_getElem? (i := 187) (by decide +kernel))) rfl
theorem mi_X4_praiseWanted : Cond.instanceMethod yX4_praiseWanted ∈ zTbl := zTbl_of (zin_6 (List.mem_of_getElem? (i := 188) (by decide +kernel))) rfl
theorem sl_X4_praiseWanted : Cond.selects RX4 yX4_praiseWanted yX4_praiseWanted ∈ zTbl := zTbl_of (zin_6 (List.mem_of_getElem? (i := 189) (by decide +kernel))) rfl
set_option maxRecDepth 20000 in
theorem kd_X4_praiseWanted : Cond.code yX4_praiseWanted prog_6_method_12_code 3 (Option.some FieldType.int) ∈ zTbl := zTbl_of (zin_6 (List.mem_of_getElem? (i := 190) rfl)) rfl
theorem wM_L_266 : Cond.methodLink RL 266 yL_stays ∈ zTbl := zTbl_of (zin_6 (List.mem_of_getElem? (i := 191) (by decide +kernel))) rfl
theorem ms_L_stays : Cond.static yL_stays ∈ zTbl := zTbl_of (zin_6 (List.mem_of_getElem? (i := 192) (by decide +kernel))) rfl
theorem wM_L_107 : Cond.methodLink RL 107 yX9_stays ∈ zTbl := zTbl_of (zin_6 (List.mem_of_getElem? (i := 194) (by decide +kernel))) rfl
theorem mi_X9_stays : Cond.instanceMethod yX9_stays ∈ zTbl := zTbl_of (zin_6 (List.mem_of_getElem? (i := 195) (by decide +kernel))) rfl
theorem sl_X9_stays : Cond.selects RX9 yX9_stays yX9_stays ∈ zTbl := zTbl_of (zin_6 (List.mem_of_getElem? (i := 196) (by decide +kernel))) rfl
set_option maxRecDepth 20000 in
theorem kd_X9_stays : Cond.code yX9_stays prog_1_method_40_code 2 (Option.some FieldType.int) ∈ zTbl := zTbl_of (zin_6 (List.mem_of_getElem? (i := 197) rfl)) rfl
theorem wM_X9_323 : Cond.methodLink RX9 323 yX4_yearsLeft ∈ zTbl := zTbl_of (zin_6 (List.mem_of_getElem? (i := 198) (by decide +kernel))) rfl
theorem mi_X4_yearsLeft : Cond.instanceMethod yX4_yearsLeft ∈ zTbl := zTbl_of (zin_6 (List.mem_of_getElem? (i := 199) (by decide +kernel))) rfl
theorem sl_X4_yearsLeft : Cond.selects RX4 yX4_yearsLeft yX4_yearsLeft ∈ zTbl := zTbl_of (zin_6 (List.mem_of_getElem? (i := 200) (by decide +kernel))) rfl
set_option maxRecDepth 20000 in
theorem kd_X4_yearsLeft : Cond.code yX4_yearsLeft prog_6_method_5_code 3 (Option.some FieldType.int) ∈ zTbl := zTbl_of (zin_6 (List.mem_of_getElem? (i := 201) rfl)) rfl
theorem wM_L_269 : Cond.methodLink RL 269 yL_doomed ∈ zTbl := zTbl_of (zin_6 (List.mem_of_getElem? (i := 202) (by decide +kernel))) rfl
theorem ms_L_doomed : Cond.static yL_doomed ∈ zTbl := zTbl_of (zin_6 (List.mem_of_getElem? (i := 203) (by decide +kernel))) rfl
theorem wM_L_110 : Cond.methodLink RL 110 yX9_doomed ∈ zTbl := zTbl_of (zin_6 (List.mem_of_getElem? (i := 205) (by decide +kernel))) rfl
theorem mi_X9_doomed : Cond.instanceMethod yX9_doomed ∈ zTbl := zTbl_of (zin_6 (List.mem_of_getElem? (i := 206) (by decide +kernel))) rfl
theorem sl_X9_doomed : Cond.selects RX9 yX9_doomed yX9_doomed ∈ zTbl := zTbl_of (zin_6 (List.mem_of_getElem? (i := 207) (by decide +kernel))) rfl
set_option maxRecDepth 20000 in
theorem kd_X9_doomed : Cond.code yX9_doomed prog_1_method_41_code 2 (Option.some FieldType.int) ∈ zTbl := zTbl_of (zin_6 (List.mem_of_getElem? (i := 208) rfl)) rfl
theorem wM_X9_326 : Cond.methodLink RX9 326 yX4_leavingWith ∈ zTbl := zTbl_of (zin_6 (List.mem_of_getElem? (i := 209) (by decide +kernel))) rfl
theorem mi_X4_leavingWith : Cond.instanceMethod yX4_leavingWith ∈ zTbl := zTbl_of (zin_6 (List.mem_of_getElem? (i := 210) (by decide +kernel))) rfl
theorem sl_X4_leavingWith : Cond.selects RX4 yX4_leavingWith yX4_leavingWith ∈ zTbl := zTbl_of (zin_6 (List.mem_of_getElem? (i := 211) (by decide +kernel))) rfl
set_option maxRecDepth 20000 in
theorem kd_X4_leavingWith : Cond.code yX4_leavingWith prog_6_method_7_code 4 (Option.some FieldType.int) ∈ zTbl := zTbl_of (zin_6 (List.mem_of_getElem? (i := 212) rfl)) rfl
theorem wM_X4_74 : Cond.methodLink RX4 74 yX2_kill ∈ zTbl := zTbl_of (zin_6 (List.mem_of_getElem? (i := 213) (by decide +kernel))) rfl
theorem wM_L_280 : Cond.methodLink RL 280 yL_pair ∈ zTbl := zTbl_of (zin_6 (List.mem_of_getElem? (i := 214) (by decide +kernel))) rfl
theorem ms_L_pair : Cond.static yL_pair ∈ zTbl := zTbl_of (zin_6 (List.mem_of_getElem? (i := 215) (by decide +kernel))) rfl
theorem wM_L_113 : Cond.methodLink RL 113 yX9_pair ∈ zTbl := zTbl_of (zin_6 (List.mem_of_getElem? (i := 217) (by decide +kernel))) rfl
theorem mi_X9_pair : Cond.instanceMethod yX9_pair ∈ zTbl := zTbl_of (zin_6 (List.mem_of_getElem? (i := 218) (by decide +kernel))) rfl
theorem sl_X9_pair : Cond.selects RX9 yX9_pair yX9_pair ∈ zTbl := zTbl_of (zin_6 (List.mem_of_getElem? (i := 219) (by decide +kernel))) rfl
set_option maxRecDepth 20000 in
theorem kd_X9_pair : Cond.code yX9_pair prog_1_method_44_code 2 (Option.some FieldType.int) ∈ zTbl := zTbl_of (zin_6 (List.mem_of_getElem? (i := 220) rfl)) rfl
theorem wM_X9_335 : Cond.methodLink RX9 335 yX3_mostUnlike ∈ zTbl := zTbl_of (zin_6 (List.mem_of_getElem? (i := 221) (by decide +kernel))) rfl
theorem mi_X3_mostUnlike : Cond.instanceMethod yX3_mostUnlike ∈ zTbl := zTbl_of (zin_6 (List.mem_of_getElem? (i := 222) (by decide +kernel))) rfl
theorem sl_X3_mostUnlike : Cond.selects RX3 yX3_mostUnlike yX3_mostUnlike ∈ zTbl := zTbl_of (zin_6 (List.mem_of_getElem? (i := 223) (by decide +kernel))) rfl
set_option maxRecDepth 20000 in
theorem kd_X3_mostUnlike : Cond.code yX3_mostUnlike prog_5_method_19_code 8 (Option.some FieldType.int) ∈ zTbl := zTbl_of (zin_6 (List.mem_of_getElem? (i := 224) rfl)) rfl
theorem wM_L_283 : Cond.methodLink RL 283 yL_quorum ∈ zTbl := zTbl_of (zin_6 (List.mem_of_getElem? (i := 225) (by decide +kernel))) rfl
theorem ms_L_quorum : Cond.static yL_quorum ∈ zTbl := zTbl_of (zin_6 (List.mem_of_getElem? (i := 226) (by decide +kernel))) rfl
theorem wM_L_116 : Cond.methodLink RL 116 yX9_quorum ∈ zTbl := zTbl_of (zin_6 (List.mem_of_getElem? (i := 228) (by decide +kernel))) rfl
theorem mi_X9_quorum : Cond.instanceMethod yX9_quorum ∈ zTbl := zTbl_of (zin_6 (List.mem_of_getElem? (i := 229) (by decide +kernel))) rfl
theorem sl_X9_quorum : Cond.selects RX9 yX9_quorum yX9_quorum ∈ zTbl := zTbl_of (zin_6 (List.mem_of_getElem? (i := 230) (by decide +kernel))) rfl
set_option maxRecDepth 20000 in
theorem kd_X9_quorum : Cond.code yX9_quorum prog_1_method_45_code 2 (Option.some FieldType.int) ∈ zTbl := zTbl_of (zin_6 (List.mem_of_getElem? (i := 231) rfl)) rfl
theorem wM_X9_338 : Cond.methodLink RX9 338 yX3_quorumOf ∈ zTbl := zTbl_of (zin_6 (List.mem_of_getElem? (i := 232) (by decide +kernel))) rfl
theorem mi_X3_quorumOf : Cond.instanceMethod yX3_quorumOf ∈ zTbl := zTbl_of (zin_6 (List.mem_of_getElem? (i := 233) (by decide +kernel))) rfl
theorem sl_X3_quorumOf : Cond.selects RX3 yX3_quorumOf yX3_quorumOf ∈ zTbl := zTbl_of (zin_6 (List.mem_of_getElem? (i := 234) (by decide +kernel))) rfl
set_option maxRecDepth 20000 in
theorem kd_X3_quorumOf : Cond.code yX3_quorumOf prog_5_method_16_code 6 (Option.some FieldType.int) ∈ zTbl := zTbl_of (zin_6 (List.mem_of_getElem? (i := 235) rfl)) rfl
theorem wM_L_290 : Cond.methodLink RL 290 yL_heir ∈ zTbl := zTbl_of (zin_6 (List.mem_of_getElem? (i := 236) (by decide +kernel))) rfl
theorem ms_L_heir : Cond.static yL_heir ∈ zTbl := zTbl_of (zin_6 (List.mem_of_getElem? (i := 237) (by decide +kernel))) rfl
theorem wM_L_119 : Cond.methodLink RL 119 yX9_heir ∈ zTbl := zTbl_of (zin_6 (List.mem_of_getElem? (i := 239) (by decide +kernel))) rfl
theorem mi_X9_heir : Cond.instanceMethod yX9_heir ∈ zTbl := zTbl_of (zin_7 (List.mem_of_getElem? (i := 0) (by decide +kernel))) rfl
theorem sl_X9_heir : Cond.selects RX9 yX9_heir yX9_heir ∈ zTbl := zTbl_of (zin_7 (List.mem_of_getElem? (i := 1) (by decide +kernel))) rfl
set_option maxRecDepth 20000 in
theorem kd_X9_heir : Cond.code yX9_heir prog_1_method_47_code 2 (Option.some FieldType.int) ∈ zTbl := zTbl_of (zin_7 (List.mem_of_getElem? (i := 2) rfl)) rfl
theorem wM_X9_344 : Cond.methodLink RX9 344 yX4_heirOf ∈ zTbl := zTbl_of (zin_7 (List.mem_of_getElem? (i := 3) (by decide +kernel))) rfl
theorem mi_X4_heirOf : Cond.instanceMethod yX4_heirOf ∈ zTbl := zTbl_of (zin_7 (List.mem_of_getElem? (i := 4) (by decide +kernel))) rfl
theorem sl_X4_heirOf : Cond.selects RX4 yX4_heirOf yX4_heirOf ∈ zTbl := zTbl_of (zin_7 (List.mem_of_getElem? (i := 5) (by decide +kernel))) rfl
set_option maxRecDepth 20000 in
theorem kd_X4_heirOf : Cond.code yX4_heirOf prog_6_method_6_code 4 (Option.some FieldType.int) ∈ zTbl := zTbl_of (zin_7 (List.mem_of_getElem? (i := 6) rfl)) rfl
theorem wM_L_293 : Cond.methodLink RL 293 yL_fates ∈ zTbl := zTbl_of (zin_7 (List.mem_of_getElem? (i := 7) (by decide +kernel))) rfl
theorem ms_L_fates : Cond.static yL_fates ∈ zTbl := zTbl_of (zin_7 (List.mem_of_getElem? (i := 8) (by decide +kernel))) rfl
theorem wM_L_122 : Cond.methodLink RL 122 yX9_fates ∈ zTbl := zTbl_of (zin_7 (List.mem_of_getElem? (i := 10) (by decide +kernel))) rfl
theorem mi_X9_fates : Cond.instanceMethod yX9_fates ∈ zTbl := zTbl_of (zin_7 (List.mem_of_getElem? (i := 11) (by decide +kernel))) rfl
theorem sl_X9_fates : Cond.selects RX9 yX9_fates yX9_fates ∈ zTbl := zTbl_of (zin_7 (List.mem_of_getElem? (i := 12) (by decide +kernel))) rfl
set_option maxRecDepth 20000 in
theorem kd_X9_fates : Cond.code yX9_fates prog_1_method_48_code 5 (Option.some FieldType.int) ∈ zTbl := zTbl_of (zin_7 (List.mem_of_getElem? (i := 13) rfl)) rfl
theorem wM_X9_347 : Cond.methodLink RX9 347 yX4_fateOf ∈ zTbl := zTbl_of (zin_7 (List.mem_of_getElem? (i := 14) (by decide +kernel))) rfl
theorem mi_X4_fateOf : Cond.instanceMethod yX4_fateOf ∈ zTbl := zTbl_of (zin_7 (List.mem_of_getElem? (i := 15) (by decide +kernel))) rfl
theorem sl_X4_fateOf : Cond.selects RX4 yX4_fateOf yX4_fateOf ∈ zTbl := zTbl_of (zin_7 (List.mem_of_getElem? (i := 16) (by decide +kernel))) rfl
set_option maxRecDepth 20000 in
theorem kd_X4_fateOf : Cond.code yX4_fateOf prog_6_method_21_code 5 (Option.some FieldType.int) ∈ zTbl := zTbl_of (zin_7 (List.mem_of_getElem? (i := 17) rfl)) rfl
theorem wM_X4_148 : Cond.methodLink RX4 148 yX4_playFate ∈ zTbl := zTbl_of (zin_7 (List.mem_of_getElem? (i := 18) (by decide +kernel))) rfl
theorem mi_X4_playFate : Cond.instanceMethod yX4_playFate ∈ zTbl := zTbl_of (zin_7 (List.mem_of_getElem? (i := 20) (by decide +kernel))) rfl
set_option maxRecDepth 20000 in
theorem kd_X4_playFate : Cond.code yX4_playFate prog_6_method_23_code 6 (Option.none : Option FieldType) ∈ zTbl := zTbl_of (zin_7 (List.mem_of_getElem? (i := 21) rfl)) rfl
theorem wM_X4_172 : Cond.methodLink RX4 172 yX4_drawDeaths ∈ zTbl := zTbl_of (zin_7 (List.mem_of_getElem? (i := 22) (by decide +kernel))) rfl
theorem mi_X4_drawDeaths : Cond.instanceMethod yX4_drawDeaths ∈ zTbl := zTbl_of (zin_7 (List.mem_of_getElem? (i := 24) (by decide +kernel))) rfl
set_option maxRecDepth 20000 in
theorem kd_X4_drawDeaths : Cond.code yX4_drawDeaths prog_6_method_24_code 6 (Option.some FieldType.int) ∈ zTbl := zTbl_of (zin_7 (List.mem_of_getElem? (i := 25) rfl)) rfl
theorem kC_RX4_175 : Cond.constant RX4 175 (1103515245 : Int32) ∈ zTbl := zTbl_of (zin_7 (List.mem_of_getElem? (i := 26) (by decide +kernel))) rfl
theorem wM_X4_176 : Cond.methodLink RX4 176 yX7_onChair ∈ zTbl := zTbl_of (zin_7 (List.mem_of_getElem? (i := 27) (by decide +kernel))) rfl
theorem wM_L_296 : Cond.methodLink RL 296 yL_span ∈ zTbl := zTbl_of (zin_7 (List.mem_of_getElem? (i := 28) (by decide +kernel))) rfl
theorem ms_L_span : Cond.static yL_span ∈ zTbl := zTbl_of (zin_7 (List.mem_of_getElem? (i := 29) (by decide +kernel))) rfl
theorem wM_L_125 : Cond.methodLink RL 125 yX9_span ∈ zTbl := zTbl_of (zin_7 (List.mem_of_getElem? (i := 31) (by decide +kernel))) rfl
theorem mi_X9_span : Cond.instanceMethod yX9_span ∈ zTbl := zTbl_of (zin_7 (List.mem_of_getElem? (i := 32) (by decide +kernel))) rfl
theorem sl_X9_span : Cond.selects RX9 yX9_span yX9_span ∈ zTbl := zTbl_of (zin_7 (List.mem_of_getElem? (i := 33) (by decide +kernel))) rfl
set_option maxRecDepth 20000 in
theorem kd_X9_span : Cond.code yX9_span prog_1_method_49_code 7 (Option.some FieldType.int) ∈ zTbl := zTbl_of (zin_7 (List.mem_of_getElem? (i := 34) rfl)) rfl
theorem wM_X9_350 : Cond.methodLink RX9 350 yX4_tryFates ∈ zTbl := zTbl_of (zin_7 (List.mem_of_getElem? (i := 35) (by decide +kernel))) rfl
theorem mi_X4_tryFates : Cond.instanceMethod yX4_tryFates ∈ zTbl := zTbl_of (zin_7 (List.mem_of_getElem? (i := 36) (by decide +kernel))) rfl
theorem sl_X4_tryFates : Cond.selects RX4 yX4_tryFates yX4_tryFates ∈ zTbl := zTbl_of (zin_7 (List.mem_of_getElem? (i := 37) (by decide +kernel))) rfl
set_option maxRecDepth 20000 in
theorem kd_X4_tryFates : Cond.code yX4_tryFates prog_6_method_22_code 7 (Option.none : Option FieldType) ∈ zTbl := zTbl_of (zin_7 (List.mem_of_getElem? (i := 38) rfl)) rfl
theorem wM_X4_164 : Cond.methodLink RX4 164 yJ9_min_7cf53 ∈ zTbl := zTbl_of (zin_7 (List.mem_of_getElem? (i := 39) (by decide +kernel))) rfl
theorem wM_X4_169 : Cond.methodLink RX4 169 yJ9_max_7cf53 ∈ zTbl := zTbl_of (zin_7 (List.mem_of_getElem? (i := 40) (by decide +kernel))) rfl
theorem wM_L_132 : Cond.methodLink RL 132 yX10_init ∈ zTbl := zTbl_of (zin_7 (List.mem_of_getElem? (i := 43) (by decide +kernel))) rfl
theorem mi_X10_init : Cond.instanceMethod yX10_init ∈ zTbl := zTbl_of (zin_7 (List.mem_of_getElem? (i := 44) (by decide +kernel))) rfl
set_option maxRecDepth 20000 in
theorem kd_X10_init : Cond.code yX10_init prog_12_method_1_code 1 (Option.none : Option FieldType) ∈ zTbl := zTbl_of (zin_7 (List.mem_of_getElem? (i := 45) rfl)) rfl
theorem wM_X10_124 : Cond.methodLink RX10 124 yX10_tellsNothing ∈ zTbl := zTbl_of (zin_7 (List.mem_of_getElem? (i := 49) (by decide +kernel))) rfl
theorem mi_X10_tellsNothing : Cond.instanceMethod yX10_tellsNothing ∈ zTbl := zTbl_of (zin_7 (List.mem_of_getElem? (i := 51) (by decide +kernel))) rfl
set_option maxRecDepth 20000 in
theorem kd_X10_tellsNothing : Cond.code yX10_tellsNothing prog_12_method_2_code 2 (Option.none : Option FieldType) ∈ zTbl := zTbl_of (zin_7 (List.mem_of_getElem? (i := 52) rfl)) rfl
theorem wM_X10_127 : Cond.methodLink RX10 127 yX10_stands ∈ zTbl := zTbl_of (zin_7 (List.mem_of_getElem? (i := 53) (by decide +kernel))) rfl
theorem mi_X10_stands : Cond.instanceMethod yX10_stands ∈ zTbl := zTbl_of (zin_7 (List.mem_of_getElem? (i := 55) (by decide +kernel))) rfl
set_option maxRecDepth 20000 in
theorem kd_X10_stands : Cond.code yX10_stands prog_12_method_31_code 2 (Option.none : Option FieldType) ∈ zTbl := zTbl_of (zin_7 (List.mem_of_getElem? (i := 56) rfl)) rfl
theorem wM_X10_233 : Cond.methodLink RX10 233 yX10_lays ∈ zTbl := zTbl_of (zin_7 (List.mem_of_getElem? (i := 57) (by decide +kernel))) rfl
theorem ms_X10_lays : Cond.static yX10_lays ∈ zTbl := zTbl_of (zin_7 (List.mem_of_getElem? (i := 58) (by decide +kernel))) rfl
set_option maxRecDepth 20000 in
theorem kd_X10_lays : Cond.code yX10_lays prog_12_method_29_code 5 (Option.none : Option FieldType) ∈ zTbl := zTbl_of (zin_7 (List.mem_of_getElem? (i := 59) rfl)) rfl
theorem wM_X10_168 : Cond.methodLink RX10 168 yX10_in ∈ zTbl := zTbl_of (zin_7 (List.mem_of_getElem? (i := 60) (by decide +kernel))) rfl
theorem ms_X10_in : Cond.static yX10_in ∈ zTbl := zTbl_of (zin_7 (List.mem_of_getElem? (i := 61) (by decide +kernel))) rfl
set_option maxRecDepth 20000 in
theorem kd_X10_in : Cond.code yX10_in prog_12_method_5_code 3 (Option.some FieldType.boolean) ∈ zTbl := zTbl_of (zin_7 (List.mem_of_getElem? (i := 62) rfl)) rfl
theorem wM_X10_237 : Cond.methodLink RX10 237 yX10_copies ∈ zTbl := zTbl_of (zin_7 (List.mem_of_getElem? (i := 63) (by decide +kernel))) rfl
theorem ms_X10_copies : Cond.static yX10_copies ∈ zTbl := zTbl_of (zin_7 (List.mem_of_getElem? (i := 64) (by decide +kernel))) rfl
set_option maxRecDepth 20000 in
theorem kd_X10_copies : Cond.code yX10_copies prog_12_method_30_code 3 (Option.none : Option FieldType) ∈ zTbl := zTbl_of (zin_7 (List.mem_of_getElem? (i := 65) rfl)) rfl
theorem wM_X10_250 : Cond.methodLink RX10 250 yX10_settles ∈ zTbl := zTbl_of (zin_7 (List.mem_of_getElem? (i := 66) (by decide +kernel))) rfl
theorem mi_X10_settles : Cond.instanceMethod yX10_settles ∈ zTbl := zTbl_of (zin_7 (List.mem_of_getElem? (i := 68) (by decide +kernel))) rfl
set_option maxRecDepth 20000 in
theorem kd_X10_settles : Cond.code yX10_settles prog_12_method_32_code 1 (Option.none : Option FieldType) ∈ zTbl := zTbl_of (zin_7 (List.mem_of_getElem? (i := 69) rfl)) rfl
theorem wF_X10_134 : Cond.fieldLink RX10 134 "ContraryChairsModel" "thrown" "I" ∈ zTbl := zTbl_of (zin_7 (List.mem_of_getElem? (i := 70) (by decide +kernel))) rfl
theorem wF_X10_137 : Cond.fieldLink RX10 137 "ContraryChairsModel" "tape" "I" ∈ zTbl := zTbl_of (zin_7 (List.mem_of_getElem? (i := 71) (by decide +kernel))) rfl
theorem wF_X10_140 : Cond.fieldLink RX10 140 "ContraryChairsModel" "size" "I" ∈ zTbl := zTbl_of (zin_7 (List.mem_of_getElem? (i := 72) (by decide +kernel))) rfl
theorem wF_X10_9 : Cond.fieldLink RX10 9 "ContraryChairsModel" "place" "I" ∈ zTbl := zTbl_of (zin_7 (List.mem_of_getElem? (i := 73) (by decide +kernel))) rfl
theorem wF_X10_143 : Cond.fieldLink RX10 143 "ContraryChairsModel" "at" "I" ∈ zTbl := zTbl_of (zin_7 (List.mem_of_getElem? (i := 74) (by decide +kernel))) rfl
theorem wF_X10_150 : Cond.fieldLink RX10 150 "ContraryChairsModel" "fault" "I" ∈ zTbl := zTbl_of (zin_7 (List.mem_of_getElem? (i := 75) (by decide +kernel))) rfl
theorem wF_X10_153 : Cond.fieldLink RX10 153 "ContraryChairsModel" "faultAt" "I" ∈ zTbl := zTbl_of (zin_7 (List.mem_of_getElem? (i := 76) (by decide +kernel))) rfl
theorem wF_X10_196 : Cond.fieldLink RX10 196 "ContraryChairsModel" "clauses" "I" ∈ zTbl := zTbl_of (zin_7 (List.mem_of_getElem? (i := 77) (by decide +kernel))) rfl
theorem wF_X10_199 : Cond.fieldLink RX10 199 "ContraryChairsModel" "open" "I" ∈ zTbl := zTbl_of (zin_7 (List.mem_of_getElem? (i := 78) (by decide +kernel))) rfl
theorem wF_X10_13 : Cond.fieldLink RX10 13 "ContraryChairsModel" "fed" "[I" ∈ zTbl := zTbl_of (zin_7 (List.mem_of_getElem? (i := 79) (by decide +kernel))) rfl
theorem wF_X10_17 : Cond.fieldLink RX10 17 "ContraryChairsModel" "refused" "[I" ∈ zTbl := zTbl_of (zin_7 (List.mem_of_getElem? (i := 80) (by decide +kernel))) rfl
theorem wF_X10_20 : Cond.fieldLink RX10 20 "ContraryChairsModel" "readTold" "[I" ∈ zTbl := zTbl_of (zin_7 (List.mem_of_getElem? (i := 81) (by decide +kernel))) rfl
theorem wF_X10_23 : Cond.fieldLink RX10 23 "ContraryChairsModel" "told" "[I" ∈ zTbl := zTbl_of (zin_7 (List.mem_of_getElem? (i := 82) (by decide +kernel))) rfl
theorem wF_X10_26 : Cond.fieldLink RX10 26 "ContraryChairsModel" "readSides" "[I" ∈ zTbl := zTbl_of (zin_7 (List.mem_of_getElem? (i := 83) (by decide +kernel))) rfl
theorem wF_X10_29 : Cond.fieldLink RX10 29 "ContraryChairsModel" "sides" "[I" ∈ zTbl := zTbl_of (zin_7 (List.mem_of_getElem? (i := 84) (by decide +kernel))) rfl
theorem wF_X10_32 : Cond.fieldLink RX10 32 "ContraryChairsModel" "readAge" "[I" ∈ zTbl := zTbl_of (zin_7 (List.mem_of_getElem? (i := 85) (by decide +kernel))) rfl
theorem wF_X10_35 : Cond.fieldLink RX10 35 "ContraryChairsModel" "age" "[I" ∈ zTbl := zTbl_of (zin_7 (List.mem_of_getElem? (i := 86) (by decide +kernel))) rfl
theorem wF_X10_38 : Cond.fieldLink RX10 38 "ContraryChairsModel" "readSeat" "[I" ∈ zTbl := zTbl_of (zin_7 (List.mem_of_getElem? (i := 87) (by decide +kernel))) rfl
theorem wF_X10_41 : Cond.fieldLink RX10 41 "ContraryChairsModel" "seat" "[I" ∈ zTbl := zTbl_of (zin_7 (List.mem_of_getElem? (i := 88) (by decide +kernel))) rfl
theorem wF_X10_46 : Cond.fieldLink RX10 46 "ContraryChairsModel" "readBelief" "[[I" ∈ zTbl := zTbl_of (zin_7 (List.mem_of_getElem? (i := 89) (by decide +kernel))) rfl
theorem wF_X10_49 : Cond.fieldLink RX10 49 "ContraryChairsModel" "belief" "[[I" ∈ zTbl := zTbl_of (zin_7 (List.mem_of_getElem? (i := 90) (by decide +kernel))) rfl
theorem wF_X10_52 : Cond.fieldLink RX10 52 "ContraryChairsModel" "readDeath" "[[I" ∈ zTbl := zTbl_of (zin_7 (List.mem_of_getElem? (i := 91) (by decide +kernel))) rfl
theorem wF_X10_55 : Cond.fieldLink RX10 55 "ContraryChairsModel" "death" "[[I" ∈ zTbl := zTbl_of (zin_7 (List.mem_of_getElem? (i := 92) (by decide +kernel))) rfl
theorem wF_X10_58 : Cond.fieldLink RX10 58 "ContraryChairsModel" "readPraise" "[[I" ∈ zTbl := zTbl_of (zin_7 (List.mem_of_getElem? (i := 93) (by decide +kernel))) rfl
theorem wF_X10_61 : Cond.fieldLink RX10 61 "ContraryChairsModel" "praise" "[[I" ∈ zTbl := zTbl_of (zin_7 (List.mem_of_getElem? (i := 94) (by decide +kernel))) rfl
theorem wF_X10_130 : Cond.fieldLink RX10 130 "ContraryChairsModel" "readChairs" "Z" ∈ zTbl := zTbl_of (zin_7 (List.mem_of_getElem? (i := 95) (by decide +kernel))) rfl
theorem wF_X10_241 : Cond.fieldLink RX10 241 "ContraryChairsModel" "lawMany" "I" ∈ zTbl := zTbl_of (zin_7 (List.mem_of_getElem? (i := 96) (by decide +kernel))) rfl
theorem wF_X10_256 : Cond.fieldLink RX10 256 "ContraryChairsModel" "readLawMany" "I" ∈ zTbl := zTbl_of (zin_7 (List.mem_of_getElem? (i := 97) (by decide +kernel))) rfl
theorem wF_X10_64 : Cond.fieldLink RX10 64 "ContraryChairsModel" "law" "[[I" ∈ zTbl := zTbl_of (zin_7 (List.mem_of_getElem? (i := 98) (by decide +kernel))) rfl
theorem wF_X10_67 : Cond.fieldLink RX10 67 "ContraryChairsModel" "readLaw" "[[I" ∈ zTbl := zTbl_of (zin_7 (List.mem_of_getElem? (i := 99) (by decide +kernel))) rfl
theorem wF_X10_70 : Cond.fieldLink RX10 70 "ContraryChairsModel" "book" "[[I" ∈ zTbl := zTbl_of (zin_7 (List.mem_of_getElem? (i := 100) (by decide +kernel))) rfl
theorem wF_X10_73 : Cond.fieldLink RX10 73 "ContraryChairsModel" "readBook" "[[I" ∈ zTbl := zTbl_of (zin_7 (List.mem_of_getElem? (i := 101) (by decide +kernel))) rfl
theorem wF_X10_76 : Cond.fieldLink RX10 76 "ContraryChairsModel" "kept" "[[I" ∈ zTbl := zTbl_of (zin_7 (List.mem_of_getElem? (i := 102) (by decide +kernel))) rfl
theorem wF_X10_79 : Cond.fieldLink RX10 79 "ContraryChairsModel" "stack" "[I" ∈ zTbl := zTbl_of (zin_7 (List.mem_of_getElem? (i := 103) (by decide +kernel))) rfl
theorem wF_X10_82 : Cond.fieldLink RX10 82 "ContraryChairsModel" "known" "[I" ∈ zTbl := zTbl_of (zin_7 (List.mem_of_getElem? (i := 104) (by decide +kernel))) rfl
theorem wF_X10_85 : Cond.fieldLink RX10 85 "ContraryChairsModel" "now" "[I" ∈ zTbl := zTbl_of (zin_7 (List.mem_of_getElem? (i := 105) (by decide +kernel))) rfl
theorem wF_X10_88 : Cond.fieldLink RX10 88 "ContraryChairsModel" "base" "[I" ∈ zTbl := zTbl_of (zin_7 (List.mem_of_getElem? (i := 106) (by decide +kernel))) rfl
theorem wF_X10_91 : Cond.fieldLink RX10 91 "ContraryChairsModel" "begun" "[I" ∈ zTbl := zTbl_of (zin_7 (List.mem_of_getElem? (i := 107) (by decide +kernel))) rfl
theorem wF_X10_94 : Cond.fieldLink RX10 94 "ContraryChairsModel" "trial" "[I" ∈ zTbl := zTbl_of (zin_7 (List.mem_of_getElem? (i := 108) (by decide +kernel))) rfl
theorem wF_X10_97 : Cond.fieldLink RX10 97 "ContraryChairsModel" "other" "[I" ∈ zTbl := zTbl_of (zin_7 (List.mem_of_getElem? (i := 109) (by decide +kernel))) rfl
theorem wF_X10_244 : Cond.fieldLink RX10 244 "ContraryChairsModel" "lines" "I" ∈ zTbl := zTbl_of (zin_7 (List.mem_of_getElem? (i := 110) (by decide +kernel))) rfl
theorem wF_X10_253 : Cond.fieldLink RX10 253 "ContraryChairsModel" "since" "I" ∈ zTbl := zTbl_of (zin_7 (List.mem_of_getElem? (i := 111) (by decide +kernel))) rfl
theorem wF_X10_247 : Cond.fieldLink RX10 247 "ContraryChairsModel" "images" "I" ∈ zTbl := zTbl_of (zin_7 (List.mem_of_getElem? (i := 112) (by decide +kernel))) rfl
theorem wF_X10_100 : Cond.fieldLink RX10 100 "ContraryChairsModel" "hope" "[[I" ∈ zTbl := zTbl_of (zin_7 (List.mem_of_getElem? (i := 113) (by decide +kernel))) rfl
theorem wF_X10_310 : Cond.fieldLink RX10 310 "ContraryChairsModel" "hopes" "I" ∈ zTbl := zTbl_of (zin_7 (List.mem_of_getElem? (i := 114) (by decide +kernel))) rfl
theorem wF_X10_336 : Cond.fieldLink RX10 336 "ContraryChairsModel" "moreYear" "I" ∈ zTbl := zTbl_of (zin_7 (List.mem_of_getElem? (i := 115) (by decide +kernel))) rfl
theorem wF_X10_103 : Cond.fieldLink RX10 103 "ContraryChairsModel" "moreMan" "I" ∈ zTbl := zTbl_of (zin_7 (List.mem_of_getElem? (i := 116) (by decide +kernel))) rfl
theorem wF_X10_343 : Cond.fieldLink RX10 343 "ContraryChairsModel" "lotsBelow" "I" ∈ zTbl := zTbl_of (zin_7 (List.mem_of_getElem? (i := 117) (by decide +kernel))) rfl
theorem wF_X10_339 : Cond.fieldLink RX10 339 "ContraryChairsModel" "lots" "I" ∈ zTbl := zTbl_of (zin_7 (List.mem_of_getElem? (i := 118) (by decide +kernel))) rfl
theorem wF_X10_106 : Cond.fieldLink RX10 106 "ContraryChairsModel" "doomedBy" "[I" ∈ zTbl := zTbl_of (zin_7 (List.mem_of_getElem? (i := 119) (by decide +kernel))) rfl
theorem wF_X10_356 : Cond.fieldLink RX10 356 "ContraryChairsModel" "latest" "I" ∈ zTbl := zTbl_of (zin_7 (List.mem_of_getElem? (i := 120) (by decide +kernel))) rfl
theorem wF_X10_109 : Cond.fieldLink RX10 109 "ContraryChairsModel" "deep" "[[I" ∈ zTbl := zTbl_of (zin_7 (List.mem_of_getElem? (i := 121) (by decide +kernel))) rfl
theorem wF_X10_365 : Cond.fieldLink RX10 365 "ContraryChairsModel" "fewest" "I" ∈ zTbl := zTbl_of (zin_7 (List.mem_of_getElem? (i := 122) (by decide +kernel))) rfl
theorem wF_X10_368 : Cond.fieldLink RX10 368 "ContraryChairsModel" "way" "I" ∈ zTbl := zTbl_of (zin_7 (List.mem_of_getElem? (i := 123) (by decide +kernel))) rfl
theorem wF_X10_112 : Cond.fieldLink RX10 112 "ContraryChairsModel" "brings" "[[I" ∈ zTbl := zTbl_of (zin_7 (List.mem_of_getElem? (i := 124) (by decide +kernel))) rfl
theorem wF_X10_115 : Cond.fieldLink RX10 115 "ContraryChairsModel" "had" "[I" ∈ zTbl := zTbl_of (zin_7 (List.mem_of_getElem? (i := 125) (by decide +kernel))) rfl
theorem wF_X10_118 : Cond.fieldLink RX10 118 "ContraryChairsModel" "always" "[I" ∈ zTbl := zTbl_of (zin_7 (List.mem_of_getElem? (i := 126) (by decide +kernel))) rfl
theorem wF_X10_388 : Cond.fieldLink RX10 388 "ContraryChairsModel" "beliefWays" "I" ∈ zTbl := zTbl_of (zin_7 (List.mem_of_getElem? (i := 127) (by decide +kernel))) rfl
theorem wF_X10_391 : Cond.fieldLink RX10 391 "ContraryChairsModel" "beliefFirst" "I" ∈ zTbl := zTbl_of (zin_7 (List.mem_of_getElem? (i := 128) (by decide +kernel))) rfl
theorem wF_X10_121 : Cond.fieldLink RX10 121 "ContraryChairsModel" "votes" "[I" ∈ zTbl := zTbl_of (zin_7 (List.mem_of_getElem? (i := 129) (by decide +kernel))) rfl
theorem wM_L_144 : Cond.methodLink RL 144 yX10_thrown ∈ zTbl := zTbl_of (zin_8 (List.mem_of_getElem? (i := 11) (by decide +kernel))) rfl
theorem mi_X10_thrown : Cond.instanceMethod yX10_thrown ∈ zTbl := zTbl_of (zin_8 (List.mem_of_getElem? (i := 12) (by decide +kernel))) rfl
theorem sl_X10_thrown : Cond.selects RX10 yX10_thrown yX10_thrown ∈ zTbl := zTbl_of (zin_8 (List.mem_of_getElem? (i := 13) (by decide +kernel))) rfl
set_option maxRecDepth 20000 in
theorem kd_X10_thrown : Cond.code yX10_thrown prog_12_method_3_code 1 (Option.some FieldType.int) ∈ zTbl := zTbl_of (zin_8 (List.mem_of_getElem? (i := 14) rfl)) rfl
theorem wM_L_137 : Cond.methodLink RL 137 yX10_feed ∈ zTbl := zTbl_of (zin_8 (List.mem_of_getElem? (i := 15) (by decide +kernel))) rfl
theorem mi_X10_feed : Cond.instanceMethod yX10_feed ∈ zTbl := zTbl_of (zin_8 (List.mem_of_getElem? (i := 16) (by decide +kernel))) rfl
theorem sl_X10_feed : Cond.selects RX10 yX10_feed yX10_feed ∈ zTbl := zTbl_of (zin_8 (List.mem_of_getElem? (i := 17) (by decide +kernel))) rfl
set_option maxRecDepth 20000 in
theorem kd_X10_feed : Cond.code yX10_feed prog_12_method_8_code 8 (Option.some FieldType.int) ∈ zTbl := zTbl_of (zin_8 (List.mem_of_getElem? (i := 18) rfl)) rfl
theorem wM_L_143 : Cond.methodLink RL 143 yX10_academy ∈ zTbl := zTbl_of (zin_8 (List.mem_of_getElem? (i := 19) (by decide +kernel))) rfl
theorem mi_X10_academy : Cond.instanceMethod yX10_academy ∈ zTbl := zTbl_of (zin_8 (List.mem_of_getElem? (i := 20) (by decide +kernel))) rfl
theorem sl_X10_academy : Cond.selects RX10 yX10_academy yX10_academy ∈ zTbl := zTbl_of (zin_8 (List.mem_of_getElem? (i := 21) (by decide +kernel))) rfl
set_option maxRecDepth 20000 in
theorem kd_X10_academy : Cond.code yX10_academy prog_12_method_28_code 2 (Option.some FieldType.int) ∈ zTbl := zTbl_of (zin_8 (List.mem_of_getElem? (i := 22) rfl)) rfl
theorem wM_X10_220 : Cond.methodLink RX10 220 yX10_bad ∈ zTbl := zTbl_of (zin_8 (List.mem_of_getElem? (i := 23) (by decide +kernel))) rfl
theorem mi_X10_bad : Cond.instanceMethod yX10_bad ∈ zTbl := zTbl_of (zin_8 (List.mem_of_getElem? (i := 25) (by decide +kernel))) rfl
set_option maxRecDepth 20000 in
theorem kd_X10_bad : Cond.code yX10_bad prog_12_method_4_code 4 (Option.some FieldType.boolean) ∈ zTbl := zTbl_of (zin_8 (List.mem_of_getElem? (i := 26) rfl)) rfl
theorem wM_X10_224 : Cond.methodLink RX10 224 yX10_starts ∈ zTbl := zTbl_of (zin_8 (List.mem_of_getElem? (i := 27) (by decide +kernel))) rfl
theorem mi_X10_starts : Cond.instanceMethod yX10_starts ∈ zTbl := zTbl_of (zin_8 (List.mem_of_getElem? (i := 29) (by decide +kernel))) rfl
set_option maxRecDepth 20000 in
theorem kd_X10_starts : Cond.code yX10_starts prog_12_method_22_code 2 (Option.none : Option FieldType) ∈ zTbl := zTbl_of (zin_8 (List.mem_of_getElem? (i := 30) rfl)) rfl
theorem wM_X10_156 : Cond.methodLink RX10 156 yX10_blanks ∈ zTbl := zTbl_of (zin_8 (List.mem_of_getElem? (i := 31) (by decide +kernel))) rfl
theorem mi_X10_blanks : Cond.instanceMethod yX10_blanks ∈ zTbl := zTbl_of (zin_8 (List.mem_of_getElem? (i := 33) (by decide +kernel))) rfl
set_option maxRecDepth 20000 in
theorem kd_X10_blanks : Cond.code yX10_blanks prog_12_method_10_code 1 (Option.none : Option FieldType) ∈ zTbl := zTbl_of (zin_8 (List.mem_of_getElem? (i := 34) rfl)) rfl
theorem wM_X10_146 : Cond.methodLink RX10 146 yX10_byteAt ∈ zTbl := zTbl_of (zin_8 (List.mem_of_getElem? (i := 35) (by decide +kernel))) rfl
theorem mi_X10_byteAt : Cond.instanceMethod yX10_byteAt ∈ zTbl := zTbl_of (zin_8 (List.mem_of_getElem? (i := 37) (by decide +kernel))) rfl
set_option maxRecDepth 20000 in
theorem kd_X10_byteAt : Cond.code yX10_byteAt prog_12_method_9_code 2 (Option.some FieldType.int) ∈ zTbl := zTbl_of (zin_8 (List.mem_of_getElem? (i := 38) rfl)) rfl
theorem wM_X10_227 : Cond.methodLink RX10 227 yX10_clause ∈ zTbl := zTbl_of (zin_8 (List.mem_of_getElem? (i := 39) (by decide +kernel))) rfl
theorem mi_X10_clause : Cond.instanceMethod yX10_clause ∈ zTbl := zTbl_of (zin_8 (List.mem_of_getElem? (i := 41) (by decide +kernel))) rfl
set_option maxRecDepth 20000 in
theorem kd_X10_clause : Cond.code yX10_clause prog_12_method_27_code 5 (Option.none : Option FieldType) ∈ zTbl := zTbl_of (zin_8 (List.mem_of_getElem? (i := 42) rfl)) rfl
theorem wM_X10_206 : Cond.methodLink RX10 206 yX10_kindHere ∈ zTbl := zTbl_of (zin_8 (List.mem_of_getElem? (i := 43) (by decide +kernel))) rfl
theorem mi_X10_kindHere : Cond.instanceMethod yX10_kindHere ∈ zTbl := zTbl_of (zin_8 (List.mem_of_getElem? (i := 45) (by decide +kernel))) rfl
set_option maxRecDepth 20000 in
theorem kd_X10_kindHere : Cond.code yX10_kindHere prog_12_method_24_code 1 (Option.some FieldType.int) ∈ zTbl := zTbl_of (zin_8 (List.mem_of_getElem? (i := 46) rfl)) rfl
theorem wM_X10_189 : Cond.methodLink RX10 189 yX10_isWord ∈ zTbl := zTbl_of (zin_8 (List.mem_of_getElem? (i := 47) (by decide +kernel))) rfl
theorem mi_X10_isWord : Cond.instanceMethod yX10_isWord ∈ zTbl := zTbl_of (zin_8 (List.mem_of_getElem? (i := 49) (by decide +kernel))) rfl
set_option maxRecDepth 20000 in
theorem kd_X10_isWord : Cond.code yX10_isWord prog_12_method_17_code 9 (Option.some FieldType.boolean) ∈ zTbl := zTbl_of (zin_8 (List.mem_of_getElem? (i := 50) rfl)) rfl
theorem wM_X10_181 : Cond.methodLink RX10 181 yX10_wordHere ∈ zTbl := zTbl_of (zin_8 (List.mem_of_getElem? (i := 51) (by decide +kernel))) rfl
theorem mi_X10_wordHere : Cond.instanceMethod yX10_wordHere ∈ zTbl := zTbl_of (zin_8 (List.mem_of_getElem? (i := 53) (by decide +kernel))) rfl
set_option maxRecDepth 20000 in
theorem kd_X10_wordHere : Cond.code yX10_wordHere prog_12_method_15_code 4 (Option.some FieldType.long) ∈ zTbl := zTbl_of (zin_8 (List.mem_of_getElem? (i := 54) rfl)) rfl
theorem wM_X10_172 : Cond.methodLink RX10 172 yX10_isSmall ∈ zTbl := zTbl_of (zin_8 (List.mem_of_getElem? (i := 55) (by decide +kernel))) rfl
theorem ms_X10_isSmall : Cond.static yX10_isSmall ∈ zTbl := zTbl_of (zin_8 (List.mem_of_getElem? (i := 56) (by decide +kernel))) rfl
set_option maxRecDepth 20000 in
theorem kd_X10_isSmall : Cond.code yX10_isSmall prog_12_method_13_code 1 (Option.some FieldType.boolean) ∈ zTbl := zTbl_of (zin_8 (List.mem_of_getElem? (i := 57) rfl)) rfl
theorem kL_RX10_175 : Cond.constantLong RX10 175 (27 : Int64) ∈ zTbl := zTbl_of (zin_8 (List.mem_of_getElem? (i := 58) (by decide +kernel))) rfl
theorem kL_RX10_177 : Cond.constantLong RX10 177 (97 : Int64) ∈ zTbl := zTbl_of (zin_8 (List.mem_of_getElem? (i := 59) (by decide +kernel))) rfl
theorem kL_RX10_179 : Cond.constantLong RX10 179 (-1 : Int64) ∈ zTbl := zTbl_of (zin_8 (List.mem_of_getElem? (i := 60) (by decide +kernel))) rfl
theorem wM_X10_185 : Cond.methodLink RX10 185 yX10_eight ∈ zTbl := zTbl_of (zin_8 (List.mem_of_getElem? (i := 61) (by decide +kernel))) rfl
theorem ms_X10_eight : Cond.static yX10_eight ∈ zTbl := zTbl_of (zin_8 (List.mem_of_getElem? (i := 62) (by decide +kernel))) rfl
set_option maxRecDepth 20000 in
theorem kd_X10_eight : Cond.code yX10_eight prog_12_method_16_code 10 (Option.some FieldType.long) ∈ zTbl := zTbl_of (zin_8 (List.mem_of_getElem? (i := 63) rfl)) rfl
theorem wM_X10_163 : Cond.methodLink RX10 163 yX10_wrong ∈ zTbl := zTbl_of (zin_8 (List.mem_of_getElem? (i := 64) (by decide +kernel))) rfl
theorem mi_X10_wrong : Cond.instanceMethod yX10_wrong ∈ zTbl := zTbl_of (zin_8 (List.mem_of_getElem? (i := 66) (by decide +kernel))) rfl
set_option maxRecDepth 20000 in
theorem kd_X10_wrong : Cond.code yX10_wrong prog_12_method_11_code 3 (Option.none : Option FieldType) ∈ zTbl := zTbl_of (zin_8 (List.mem_of_getElem? (i := 67) rfl)) rfl
theorem wM_X10_210 : Cond.methodLink RX10 210 yX10_isFull ∈ zTbl := zTbl_of (zin_8 (List.mem_of_getElem? (i := 68) (by decide +kernel))) rfl
theorem mi_X10_isFull : Cond.instanceMethod yX10_isFull ∈ zTbl := zTbl_of (zin_8 (List.mem_of_getElem? (i := 70) (by decide +kernel))) rfl
set_option maxRecDepth 20000 in
theorem kd_X10_isFull : Cond.code yX10_isFull prog_12_method_25_code 2 (Option.some FieldType.boolean) ∈ zTbl := zTbl_of (zin_8 (List.mem_of_getElem? (i := 71) rfl)) rfl
theorem wM_X10_193 : Cond.methodLink RX10 193 yX10_skipWord ∈ zTbl := zTbl_of (zin_8 (List.mem_of_getElem? (i := 72) (by decide +kernel))) rfl
theorem mi_X10_skipWord : Cond.instanceMethod yX10_skipWord ∈ zTbl := zTbl_of (zin_8 (List.mem_of_getElem? (i := 74) (by decide +kernel))) rfl
set_option maxRecDepth 20000 in
theorem kd_X10_skipWord : Cond.code yX10_skipWord prog_12_method_18_code 1 (Option.none : Option FieldType) ∈ zTbl := zTbl_of (zin_8 (List.mem_of_getElem? (i := 75) rfl)) rfl
theorem wM_X10_202 : Cond.methodLink RX10 202 yX10_number ∈ zTbl := zTbl_of (zin_8 (List.mem_of_getElem? (i := 76) (by decide +kernel))) rfl
theorem mi_X10_number : Cond.instanceMethod yX10_number ∈ zTbl := zTbl_of (zin_8 (List.mem_of_getElem? (i := 78) (by decide +kernel))) rfl
set_option maxRecDepth 20000 in
theorem kd_X10_number : Cond.code yX10_number prog_12_method_14_code 5 (Option.some FieldType.int) ∈ zTbl := zTbl_of (zin_8 (List.mem_of_getElem? (i := 79) rfl)) rfl
theorem wM_X10_159 : Cond.methodLink RX10 159 yX10_isDigit ∈ zTbl := zTbl_of (zin_8 (List.mem_of_getElem? (i := 80) (by decide +kernel))) rfl
theorem ms_X10_isDigit : Cond.static yX10_isDigit ∈ zTbl := zTbl_of (zin_8 (List.mem_of_getElem? (i := 81) (by decide +kernel))) rfl
set_option maxRecDepth 20000 in
theorem kd_X10_isDigit : Cond.code yX10_isDigit prog_12_method_12_code 1 (Option.some FieldType.boolean) ∈ zTbl := zTbl_of (zin_8 (List.mem_of_getElem? (i := 82) rfl)) rfl
theorem kC_RX10_167 : Cond.constant RX10 167 (100000 : Int32) ∈ zTbl := zTbl_of (zin_8 (List.mem_of_getElem? (i := 83) (by decide +kernel))) rfl
theorem wM_X10_213 : Cond.methodLink RX10 213 yX10_manHere ∈ zTbl := zTbl_of (zin_8 (List.mem_of_getElem? (i := 84) (by decide +kernel))) rfl
theorem mi_X10_manHere : Cond.instanceMethod yX10_manHere ∈ zTbl := zTbl_of (zin_8 (List.mem_of_getElem? (i := 86) (by decide +kernel))) rfl
set_option maxRecDepth 20000 in
theorem kd_X10_manHere : Cond.code yX10_manHere prog_12_method_26_code 1 (Option.some FieldType.int) ∈ zTbl := zTbl_of (zin_8 (List.mem_of_getElem? (i := 87) rfl)) rfl
theorem wM_X10_216 : Cond.methodLink RX10 216 yX10_sign ∈ zTbl := zTbl_of (zin_8 (List.mem_of_getElem? (i := 88) (by decide +kernel))) rfl
theorem mi_X10_sign : Cond.instanceMethod yX10_sign ∈ zTbl := zTbl_of (zin_8 (List.mem_of_getElem? (i := 90) (by decide +kernel))) rfl
set_option maxRecDepth 20000 in
theorem kd_X10_sign : Cond.code yX10_sign prog_12_method_20_code 2 (Option.none : Option FieldType) ∈ zTbl := zTbl_of (zin_8 (List.mem_of_getElem? (i := 91) rfl)) rfl
theorem wM_X10_230 : Cond.methodLink RX10 230 yX10_ends ∈ zTbl := zTbl_of (zin_8 (List.mem_of_getElem? (i := 92) (by decide +kernel))) rfl
theorem mi_X10_ends : Cond.instanceMethod yX10_ends ∈ zTbl := zTbl_of (zin_8 (List.mem_of_getElem? (i := 94) (by decide +kernel))) rfl
set_option maxRecDepth 20000 in
theorem kd_X10_ends : Cond.code yX10_ends prog_12_method_23_code 1 (Option.some FieldType.int) ∈ zTbl := zTbl_of (zin_8 (List.mem_of_getElem? (i := 95) rfl)) rfl
theorem wM_L_150 : Cond.methodLink RL 150 yX10_law ∈ zTbl := zTbl_of (zin_8 (List.mem_of_getElem? (i := 96) (by decide +kernel))) rfl
theorem mi_X10_law : Cond.instanceMethod yX10_law ∈ zTbl := zTbl_of (zin_8 (List.mem_of_getElem? (i := 97) (by decide +kernel))) rfl
theorem sl_X10_law : Cond.selects RX10 yX10_law yX10_law ∈ zTbl := zTbl_of (zin_8 (List.mem_of_getElem? (i := 98) (by decide +kernel))) rfl
set_option maxRecDepth 20000 in
theorem kd_X10_law : Cond.code yX10_law prog_12_method_39_code 2 (Option.some FieldType.int) ∈ zTbl := zTbl_of (zin_8 (List.mem_of_getElem? (i := 99) rfl)) rfl
theorem wM_X10_278 : Cond.methodLink RX10 278 yX10_sum ∈ zTbl := zTbl_of (zin_8 (List.mem_of_getElem? (i := 100) (by decide +kernel))) rfl
theorem mi_X10_sum : Cond.instanceMethod yX10_sum ∈ zTbl := zTbl_of (zin_8 (List.mem_of_getElem? (i := 102) (by decide +kernel))) rfl
set_option maxRecDepth 20000 in
theorem kd_X10_sum : Cond.code yX10_sum prog_12_method_35_code 2 (Option.none : Option FieldType) ∈ zTbl := zTbl_of (zin_8 (List.mem_of_getElem? (i := 103) rfl)) rfl
theorem wM_X10_259 : Cond.methodLink RX10 259 yX10_product ∈ zTbl := zTbl_of (zin_8 (List.mem_of_getElem? (i := 104) (by decide +kernel))) rfl
theorem mi_X10_product : Cond.instanceMethod yX10_product ∈ zTbl := zTbl_of (zin_8 (List.mem_of_getElem? (i := 106) (by decide +kernel))) rfl
set_option maxRecDepth 20000 in
theorem kd_X10_product : Cond.code yX10_product prog_12_method_36_code 2 (Option.none : Option FieldType) ∈ zTbl := zTbl_of (zin_8 (List.mem_of_getElem? (i := 107) rfl)) rfl
theorem wM_X10_268 : Cond.methodLink RX10 268 yX10_one ∈ zTbl := zTbl_of (zin_8 (List.mem_of_getElem? (i := 108) (by decide +kernel))) rfl
theorem mi_X10_one : Cond.instanceMethod yX10_one ∈ zTbl := zTbl_of (zin_8 (List.mem_of_getElem? (i := 110) (by decide +kernel))) rfl
set_option maxRecDepth 20000 in
theorem kd_X10_one : Cond.code yX10_one prog_12_method_38_code 3 (Option.none : Option FieldType) ∈ zTbl := zTbl_of (zin_8 (List.mem_of_getElem? (i := 111) rfl)) rfl
theorem wM_X10_274 : Cond.methodLink RX10 274 yX10_opens ∈ zTbl := zTbl_of (zin_8 (List.mem_of_getElem? (i := 112) (by decide +kernel))) rfl
theorem mi_X10_opens : Cond.instanceMethod yX10_opens ∈ zTbl := zTbl_of (zin_8 (List.mem_of_getElem? (i := 114) (by decide +kernel))) rfl
set_option maxRecDepth 20000 in
theorem kd_X10_opens : Cond.code yX10_opens prog_12_method_34_code 1 (Option.some FieldType.boolean) ∈ zTbl := zTbl_of (zin_8 (List.mem_of_getElem? (i := 115) rfl)) rfl
theorem wM_X10_265 : Cond.methodLink RX10 265 yX10_notes ∈ zTbl := zTbl_of (zin_8 (List.mem_of_getElem? (i := 116) (by decide +kernel))) rfl
theorem mi_X10_notes : Cond.instanceMethod yX10_notes ∈ zTbl := zTbl_of (zin_8 (List.mem_of_getElem? (i := 118) (by decide +kernel))) rfl
set_option maxRecDepth 20000 in
theorem kd_X10_notes : Cond.code yX10_notes prog_12_method_33_code 3 (Option.none : Option FieldType) ∈ zTbl := zTbl_of (zin_8 (List.mem_of_getElem? (i := 119) rfl)) rfl
theorem wM_X10_281 : Cond.methodLink RX10 281 yX10_knownHere ∈ zTbl := zTbl_of (zin_8 (List.mem_of_getElem? (i := 120) (by decide +kernel))) rfl
theorem mi_X10_knownHere : Cond.instanceMethod yX10_knownHere ∈ zTbl := zTbl_of (zin_8 (List.mem_of_getElem? (i := 122) (by decide +kernel))) rfl
set_option maxRecDepth 20000 in
theorem kd_X10_knownHere : Cond.code yX10_knownHere prog_12_method_37_code 1 (Option.some FieldType.int) ∈ zTbl := zTbl_of (zin_8 (List.mem_of_getElem? (i := 123) rfl)) rfl
theorem wM_X10_271 : Cond.methodLink RX10 271 yX10_takes ∈ zTbl := zTbl_of (zin_8 (List.mem_of_getElem? (i := 124) (by decide +kernel))) rfl
theorem mi_X10_takes : Cond.instanceMethod yX10_takes ∈ zTbl := zTbl_of (zin_8 (List.mem_of_getElem? (i := 126) (by decide +kernel))) rfl
set_option maxRecDepth 20000 in
theorem kd_X10_takes : Cond.code yX10_takes prog_12_method_19_code 10 (Option.some FieldType.boolean) ∈ zTbl := zTbl_of (zin_8 (List.mem_of_getElem? (i := 127) rfl)) rfl
theorem wM_X10_262 : Cond.methodLink RX10 262 yX10_takesSign ∈ zTbl := zTbl_of (zin_8 (List.mem_of_getElem? (i := 128) (by decide +kernel))) rfl
theorem mi_X10_takesSign : Cond.instanceMethod yX10_takesSign ∈ zTbl := zTbl_of (zin_8 (List.mem_of_getElem? (i := 130) (by decide +kernel))) rfl
set_option maxRecDepth 20000 in
theorem kd_X10_takesSign : Cond.code yX10_takesSign prog_12_method_21_code 3 (Option.some FieldType.boolean) ∈ zTbl := zTbl_of (zin_8 (List.mem_of_getElem? (i := 131) rfl)) rfl
theorem wM_L_153 : Cond.methodLink RL 153 yX10_book ∈ zTbl := zTbl_of (zin_8 (List.mem_of_getElem? (i := 132) (by decide +kernel))) rfl
theorem mi_X10_book : Cond.instanceMethod yX10_book ∈ zTbl := zTbl_of (zin_8 (List.mem_of_getElem? (i := 133) (by decide +kernel))) rfl
theorem sl_X10_book : Cond.selects RX10 yX10_book yX10_book ∈ zTbl := zTbl_of (zin_8 (List.mem_of_getElem? (i := 134) (by decide +kernel))) rfl
set_option maxRecDepth 20000 in
theorem kd_X10_book : Cond.code yX10_book prog_12_method_42_code 6 (Option.some FieldType.int) ∈ zTbl := zTbl_of (zin_8 (List.mem_of_getElem? (i := 135) rfl)) rfl
theorem wM_L_157 : Cond.methodLink RL 157 yX10_fault ∈ zTbl := zTbl_of (zin_8 (List.mem_of_getElem? (i := 136) (by decide +kernel))) rfl
theorem mi_X10_fault : Cond.instanceMethod yX10_fault ∈ zTbl := zTbl_of (zin_8 (List.mem_of_getElem? (i := 137) (by decide +kernel))) rfl
theorem sl_X10_fault : Cond.selects RX10 yX10_fault yX10_fault ∈ zTbl := zTbl_of (zin_8 (List.mem_of_getElem? (i := 138) (by decide +kernel))) rfl
set_option maxRecDepth 20000 in
theorem kd_X10_fault : Cond.code yX10_fault prog_12_method_43_code 1 (Option.some FieldType.int) ∈ zTbl := zTbl_of (zin_8 (List.mem_of_getElem? (i := 139) rfl)) rfl
theorem wM_L_160 : Cond.methodLink RL 160 yX10_told ∈ zTbl := zTbl_of (zin_8 (List.mem_of_getElem? (i := 140) (by decide +kernel))) rfl
theorem mi_X10_told : Cond.instanceMethod yX10_told ∈ zTbl := zTbl_of (zin_8 (List.mem_of_getElem? (i := 141) (by decide +kernel))) rfl
theorem sl_X10_told : Cond.selects RX10 yX10_told yX10_told ∈ zTbl := zTbl_of (zin_8 (List.mem_of_getElem? (i := 142) (by decide +kernel))) rfl
set_option maxRecDepth 20000 in
theorem kd_X10_told : Cond.code yX10_told prog_12_method_45_code 2 (Option.some FieldType.int) ∈ zTbl := zTbl_of (zin_8 (List.mem_of_getElem? (i := 143) rfl)) rfl
theorem wM_X10_294 : Cond.methodLink RX10 294 yX10_stateMany ∈ zTbl := zTbl_of (zin_8 (List.mem_of_getElem? (i := 144) (by decide +kernel))) rfl
theorem mi_X10_stateMany : Cond.instanceMethod yX10_stateMany ∈ zTbl := zTbl_of (zin_8 (List.mem_of_getElem? (i := 146) (by decide +kernel))) rfl
set_option maxRecDepth 20000 in
theorem kd_X10_stateMany : Cond.code yX10_stateMany prog_12_method_44_code 5 (Option.some FieldType.int) ∈ zTbl := zTbl_of (zin_8 (List.mem_of_getElem? (i := 147) rfl)) rfl
theorem wM_L_164 : Cond.methodLink RL 164 yX10_man ∈ zTbl := zTbl_of (zin_8 (List.mem_of_getElem? (i := 148) (by decide +kernel))) rfl
theorem mi_X10_man : Cond.instanceMethod yX10_man ∈ zTbl := zTbl_of (zin_8 (List.mem_of_getElem? (i := 149) (by decide +kernel))) rfl
theorem sl_X10_man : Cond.selects RX10 yX10_man yX10_man ∈ zTbl := zTbl_of (zin_8 (List.mem_of_getElem? (i := 150) (by decide +kernel))) rfl
set_option maxRecDepth 20000 in
theorem kd_X10_man : Cond.code yX10_man prog_12_method_49_code 3 (Option.some FieldType.int) ∈ zTbl := zTbl_of (zin_8 (List.mem_of_getElem? (i := 151) rfl)) rfl
theorem wM_X10_298 : Cond.methodLink RX10 298 yX10_isMan ∈ zTbl := zTbl_of (zin_8 (List.mem_of_getElem? (i := 152) (by decide +kernel))) rfl
theorem mi_X10_isMan : Cond.instanceMethod yX10_isMan ∈ zTbl := zTbl_of (zin_8 (List.mem_of_getElem? (i := 154) (by decide +kernel))) rfl
set_option maxRecDepth 20000 in
theorem kd_X10_isMan : Cond.code yX10_isMan prog_12_method_46_code 2 (Option.some FieldType.boolean) ∈ zTbl := zTbl_of (zin_8 (List.mem_of_getElem? (i := 155) rfl)) rfl
theorem wM_X10_301 : Cond.methodLink RX10 301 yX10_chairOf ∈ zTbl := zTbl_of (zin_8 (List.mem_of_getElem? (i := 156) (by decide +kernel))) rfl
theorem ms_X10_chairOf : Cond.static yX10_chairOf ∈ zTbl := zTbl_of (zin_8 (List.mem_of_getElem? (i := 157) (by decide +kernel))) rfl
set_option maxRecDepth 20000 in
theorem kd_X10_chairOf : Cond.code yX10_chairOf prog_12_method_48_code 3 (Option.some FieldType.int) ∈ zTbl := zTbl_of (zin_8 (List.mem_of_getElem? (i := 158) rfl)) rfl
theorem wM_L_167 : Cond.methodLink RL 167 yX10_sides ∈ zTbl := zTbl_of (zin_8 (List.mem_of_getElem? (i := 159) (by decide +kernel))) rfl
theorem mi_X10_sides : Cond.instanceMethod yX10_sides ∈ zTbl := zTbl_of (zin_8 (List.mem_of_getElem? (i := 160) (by decide +kernel))) rfl
theorem sl_X10_sides : Cond.selects RX10 yX10_sides yX10_sides ∈ zTbl := zTbl_of (zin_8 (List.mem_of_getElem? (i := 161) (by decide +kernel))) rfl
set_option maxRecDepth 20000 in
theorem kd_X10_sides : Cond.code yX10_sides prog_12_method_50_code 2 (Option.some FieldType.int) ∈ zTbl := zTbl_of (zin_8 (List.mem_of_getElem? (i := 162) rfl)) rfl
theorem wM_X10_304 : Cond.methodLink RX10 304 yX10_isQuestion ∈ zTbl := zTbl_of (zin_8 (List.mem_of_getElem? (i := 163) (by decide +kernel))) rfl
theorem mi_X10_isQuestion : Cond.instanceMethod yX10_isQuestion ∈ zTbl := zTbl_of (zin_8 (List.mem_of_getElem? (i := 165) (by decide +kernel))) rfl
set_option maxRecDepth 20000 in
theorem kd_X10_isQuestion : Cond.code yX10_isQuestion prog_12_method_47_code 2 (Option.some FieldType.boolean) ∈ zTbl := zTbl_of (zin_8 (List.mem_of_getElem? (i := 166) rfl)) rfl
theorem wM_L_170 : Cond.methodLink RL 170 yX10_believes ∈ zTbl := zTbl_of (zin_8 (List.mem_of_getElem? (i := 167) (by decide +kernel))) rfl
theorem mi_X10_believes : Cond.instanceMethod yX10_believes ∈ zTbl := zTbl_of (zin_8 (List.mem_of_getElem? (i := 168) (by decide +kernel))) rfl
theorem sl_X10_believes : Cond.selects RX10 yX10_believes yX10_believes ∈ zTbl := zTbl_of (zin_8 (List.mem_of_getElem? (i := 169) (by decide +kernel))) rfl
set_option maxRecDepth 20000 in
theorem kd_X10_believes : Cond.code yX10_believes prog_12_method_51_code 3 (Option.some FieldType.int) ∈ zTbl := zTbl_of (zin_8 (List.mem_of_getElem? (i := 170) rfl)) rfl
theorem wM_L_173 : Cond.methodLink RL 173 yX10_chair ∈ zTbl := zTbl_of (zin_8 (List.mem_of_getElem? (i := 171) (by decide +kernel))) rfl
theorem mi_X10_chair : Cond.instanceMethod yX10_chair ∈ zTbl := zTbl_of (zin_8 (List.mem_of_getElem? (i := 172) (by decide +kernel))) rfl
theorem sl_X10_chair : Cond.selects RX10 yX10_chair yX10_chair ∈ zTbl := zTbl_of (zin_8 (List.mem_of_getElem? (i := 173) (by decide +kernel))) rfl
set_option maxRecDepth 20000 in
theorem kd_X10_chair : Cond.code yX10_chair prog_12_method_52_code 2 (Option.some FieldType.int) ∈ zTbl := zTbl_of (zin_8 (List.mem_of_getElem? (i := 174) rfl)) rfl
theorem wM_L_176 : Cond.methodLink RL 176 yX10_differs ∈ zTbl := zTbl_of (zin_8 (List.mem_of_getElem? (i := 175) (by decide +kernel))) rfl
theorem mi_X10_differs : Cond.instanceMethod yX10_differs ∈ zTbl := zTbl_of (zin_8 (List.mem_of_getElem? (i := 176) (by decide +kernel))) rfl
theorem sl_X10_differs : Cond.selects RX10 yX10_differs yX10_differs ∈ zTbl := zTbl_of (zin_8 (List.mem_of_getElem? (i := 177) (by decide +kernel))) rfl
set_option maxRecDepth 20000 in
theorem kd_X10_differs : Cond.code yX10_differs prog_12_method_54_code 3 (Option.some FieldType.int) ∈ zTbl := zTbl_of (zin_8 (List.mem_of_getElem? (i := 178) rfl)) rfl
theorem wM_X10_307 : Cond.methodLink RX10 307 yX10_differsOf ∈ zTbl := zTbl_of (zin_8 (List.mem_of_getElem? (i := 179) (by decide +kernel))) rfl
theorem mi_X10_differsOf : Cond.instanceMethod yX10_differsOf ∈ zTbl := zTbl_of (zin_8 (List.mem_of_getElem? (i := 181) (by decide +kernel))) rfl
set_option maxRecDepth 20000 in
theorem kd_X10_differsOf : Cond.code yX10_differsOf prog_12_method_53_code 5 (Option.some FieldType.int) ∈ zTbl := zTbl_of (zin_8 (List.mem_of_getElem? (i := 182) rfl)) rfl
theorem wM_L_179 : Cond.methodLink RL 179 yX10_score ∈ zTbl := zTbl_of (zin_8 (List.mem_of_getElem? (i := 183) (by decide +kernel))) rfl
theorem mi_X10_score : Cond.instanceMethod yX10_score ∈ zTbl := zTbl_of (zin_8 (List.mem_of_getElem? (i := 184) (by decide +kernel))) rfl
theorem sl_X10_score : Cond.selects RX10 yX10_score yX10_score ∈ zTbl := zTbl_of (zin_8 (List.mem_of_getElem? (i := 185) (by decide +kernel))) rfl
set_option maxRecDepth 20000 in
theorem kd_X10_score : Cond.code yX10_score prog_12_method_58_code 2 (Option.some FieldType.int) ∈ zTbl := zTbl_of (zin_8 (List.mem_of_getElem? (i := 186) rfl)) rfl
theorem wM_X10_323 : Cond.methodLink RX10 323 yX10_scoreOf ∈ zTbl := zTbl_of (zin_8 (List.mem_of_getElem? (i := 187) (by decide +kernel))) rfl
theorem mi_X10_scoreOf : Cond.instanceMethod yX10_scoreOf ∈ zTbl := zTbl_of (zin_8 (List.mem_of_getElem? (i := 189) (by decide +kernel))) rfl
set_option maxRecDepth 20000 in
theorem kd_X10_scoreOf : Cond.code yX10_scoreOf prog_12_method_57_code 3 (Option.some FieldType.int) ∈ zTbl := zTbl_of (zin_8 (List.mem_of_getElem? (i := 190) rfl)) rfl
theorem wM_X10_313 : Cond.methodLink RX10 313 yX10_lastOf ∈ zTbl := zTbl_of (zin_8 (List.mem_of_getElem? (i := 191) (by decide +kernel))) rfl
theorem ms_X10_lastOf : Cond.static yX10_lastOf ∈ zTbl := zTbl_of (zin_8 (List.mem_of_getElem? (i := 192) (by decide +kernel))) rfl
set_option maxRecDepth 20000 in
theorem kd_X10_lastOf : Cond.code yX10_lastOf prog_12_method_56_code 1 (Option.some FieldType.int) ∈ zTbl := zTbl_of (zin_8 (List.mem_of_getElem? (i := 193) rfl)) rfl
theorem wM_X10_317 : Cond.methodLink RX10 317 yX10_byLaw ∈ zTbl := zTbl_of (zin_8 (List.mem_of_getElem? (i := 194) (by decide +kernel))) rfl
theorem mi_X10_byLaw : Cond.instanceMethod yX10_byLaw ∈ zTbl := zTbl_of (zin_8 (List.mem_of_getElem? (i := 196) (by decide +kernel))) rfl
set_option maxRecDepth 20000 in
theorem kd_X10_byLaw : Cond.code yX10_byLaw prog_12_method_41_code 3 (Option.some FieldType.int) ∈ zTbl := zTbl_of (zin_8 (List.mem_of_getElem? (i := 197) rfl)) rfl
theorem wM_X10_290 : Cond.methodLink RX10 290 yX10_by ∈ zTbl := zTbl_of (zin_8 (List.mem_of_getElem? (i := 198) (by decide +kernel))) rfl
theorem ms_X10_by : Cond.static yX10_by ∈ zTbl := zTbl_of (zin_8 (List.mem_of_getElem? (i := 199) (by decide +kernel))) rfl
set_option maxRecDepth 20000 in
theorem kd_X10_by : Cond.code yX10_by prog_12_method_40_code 3 (Option.some FieldType.int) ∈ zTbl := zTbl_of (zin_8 (List.mem_of_getElem? (i := 200) rfl)) rfl
theorem wM_X10_284 : Cond.methodLink RX10 284 yX10_less ∈ zTbl := zTbl_of (zin_8 (List.mem_of_getElem? (i := 201) (by decide +kernel))) rfl
theorem ms_X10_less : Cond.static yX10_less ∈ zTbl := zTbl_of (zin_8 (List.mem_of_getElem? (i := 202) (by decide +kernel))) rfl
set_option maxRecDepth 20000 in
theorem kd_X10_less : Cond.code yX10_less prog_12_method_6_code 2 (Option.some FieldType.int) ∈ zTbl := zTbl_of (zin_8 (List.mem_of_getElem? (i := 203) rfl)) rfl
theorem wM_X10_287 : Cond.methodLink RX10 287 yX10_more ∈ zTbl := zTbl_of (zin_8 (List.mem_of_getElem? (i := 204) (by decide +kernel))) rfl
theorem ms_X10_more : Cond.static yX10_more ∈ zTbl := zTbl_of (zin_8 (List.mem_of_getElem? (i := 205) (by decide +kernel))) rfl
set_option maxRecDepth 20000 in
theorem kd_X10_more : Cond.code yX10_more prog_12_method_7_code 2 (Option.some FieldType.int) ∈ zTbl := zTbl_of (zin_8 (List.mem_of_getElem? (i := 206) rfl)) rfl
theorem wM_X10_320 : Cond.methodLink RX10 320 yX10_praiseOf ∈ zTbl := zTbl_of (zin_8 (List.mem_of_getElem? (i := 207) (by decide +kernel))) rfl
theorem mi_X10_praiseOf : Cond.instanceMethod yX10_praiseOf ∈ zTbl := zTbl_of (zin_8 (List.mem_of_getElem? (i := 209) (by decide +kernel))) rfl
set_option maxRecDepth 20000 in
theorem kd_X10_praiseOf : Cond.code yX10_praiseOf prog_12_method_55_code 5 (Option.some FieldType.int) ∈ zTbl := zTbl_of (zin_8 (List.mem_of_getElem? (i := 210) rfl)) rfl
theorem wM_L_183 : Cond.methodLink RL 183 yX10_next ∈ zTbl := zTbl_of (zin_8 (List.mem_of_getElem? (i := 211) (by decide +kernel))) rfl
theorem mi_X10_next : Cond.instanceMethod yX10_next ∈ zTbl := zTbl_of (zin_8 (List.mem_of_getElem? (i := 212) (by decide +kernel))) rfl
theorem sl_X10_next : Cond.selects RX10 yX10_next yX10_next ∈ zTbl := zTbl_of (zin_8 (List.mem_of_getElem? (i := 213) (by decide +kernel))) rfl
set_option maxRecDepth 20000 in
theorem kd_X10_next : Cond.code yX10_next prog_12_method_66_code 1 (Option.some FieldType.int) ∈ zTbl := zTbl_of (zin_8 (List.mem_of_getElem? (i := 214) rfl)) rfl
theorem wM_X10_359 : Cond.methodLink RX10 359 yX10_goes ∈ zTbl := zTbl_of (zin_8 (List.mem_of_getElem? (i := 215) (by decide +kernel))) rfl
theorem mi_X10_goes : Cond.instanceMethod yX10_goes ∈ zTbl := zTbl_of (zin_8 (List.mem_of_getElem? (i := 217) (by decide +kernel))) rfl
set_option maxRecDepth 20000 in
theorem kd_X10_goes : Cond.code yX10_goes prog_12_method_65_code 4 (Option.none : Option FieldType) ∈ zTbl := zTbl_of (zin_8 (List.mem_of_getElem? (i := 218) rfl)) rfl
theorem wM_X10_346 : Cond.methodLink RX10 346 yX10_deathsOf ∈ zTbl := zTbl_of (zin_8 (List.mem_of_getElem? (i := 219) (by decide +kernel))) rfl
theorem mi_X10_deathsOf : Cond.instanceMethod yX10_deathsOf ∈ zTbl := zTbl_of (zin_8 (List.mem_of_getElem? (i := 221) (by decide +kernel))) rfl
set_option maxRecDepth 20000 in
theorem kd_X10_deathsOf : Cond.code yX10_deathsOf prog_12_method_63_code 3 (Option.none : Option FieldType) ∈ zTbl := zTbl_of (zin_8 (List.mem_of_getElem? (i := 222) rfl)) rfl
theorem wM_X10_333 : Cond.methodLink RX10 333 yX10_dies ∈ zTbl := zTbl_of (zin_8 (List.mem_of_getElem? (i := 223) (by decide +kernel))) rfl
theorem mi_X10_dies : Cond.instanceMethod yX10_dies ∈ zTbl := zTbl_of (zin_8 (List.mem_of_getElem? (i := 225) (by decide +kernel))) rfl
set_option maxRecDepth 20000 in
theorem kd_X10_dies : Cond.code yX10_dies prog_12_method_62_code 4 (Option.none : Option FieldType) ∈ zTbl := zTbl_of (zin_8 (List.mem_of_getElem? (i := 226) rfl)) rfl
theorem wM_X10_326 : Cond.methodLink RX10 326 yX10_risesFrom ∈ zTbl := zTbl_of (zin_8 (List.mem_of_getElem? (i := 227) (by decide +kernel))) rfl
theorem ms_X10_risesFrom : Cond.static yX10_risesFrom ∈ zTbl := zTbl_of (zin_8 (List.mem_of_getElem? (i := 228) (by decide +kernel))) rfl
set_option maxRecDepth 20000 in
theorem kd_X10_risesFrom : Cond.code yX10_risesFrom prog_12_method_60_code 3 (Option.none : Option FieldType) ∈ zTbl := zTbl_of (zin_8 (List.mem_of_getElem? (i := 229) rfl)) rfl
theorem wM_X10_330 : Cond.methodLink RX10 330 yX10_leaves ∈ zTbl := zTbl_of (zin_8 (List.mem_of_getElem? (i := 230) (by decide +kernel))) rfl
theorem ms_X10_leaves : Cond.static yX10_leaves ∈ zTbl := zTbl_of (zin_8 (List.mem_of_getElem? (i := 231) (by decide +kernel))) rfl
set_option maxRecDepth 20000 in
theorem kd_X10_leaves : Cond.code yX10_leaves prog_12_method_61_code 2 (Option.none : Option FieldType) ∈ zTbl := zTbl_of (zin_8 (List.mem_of_getElem? (i := 232) rfl)) rfl
theorem wM_X10_350 : Cond.methodLink RX10 350 yX10_fatesOf ∈ zTbl := zTbl_of (zin_8 (List.mem_of_getElem? (i := 233) (by decide +kernel))) rfl
theorem mi_X10_fatesOf : Cond.instanceMethod yX10_fatesOf ∈ zTbl := zTbl_of (zin_8 (List.mem_of_getElem? (i := 235) (by decide +kernel))) rfl
set_option maxRecDepth 20000 in
theorem kd_X10_fatesOf : Cond.code yX10_fatesOf prog_12_method_64_code 5 (Option.none : Option FieldType) ∈ zTbl := zTbl_of (zin_8 (List.mem_of_getElem? (i := 236) rfl)) rfl
theorem kC_RX10_342 : Cond.constant RX10 342 (1103515245 : Int32) ∈ zTbl := zTbl_of (zin_8 (List.mem_of_getElem? (i := 237) (by decide +kernel))) rfl
theorem wM_X10_353 : Cond.methodLink RX10 353 yX10_chosen ∈ zTbl := zTbl_of (zin_8 (List.mem_of_getElem? (i := 238) (by decide +kernel))) rfl
theorem mi_X10_chosen : Cond.instanceMethod yX10_chosen ∈ zTbl := zTbl_of (zin_9 (List.mem_of_getElem? (i := 0) (by decide +kernel))) rfl
set_option maxRecDepth 20000 in
theorem kd_X10_chosen : Cond.code yX10_chosen prog_12_method_59_code 6 (Option.some FieldType.int) ∈ zTbl := zTbl_of (zin_9 (List.mem_of_getElem? (i := 1) rfl)) rfl
theorem wM_L_186 : Cond.methodLink RL 186 yX10_years ∈ zTbl := zTbl_of (zin_9 (List.mem_of_getElem? (i := 2) (by decide +kernel))) rfl
theorem mi_X10_years : Cond.instanceMethod yX10_years ∈ zTbl := zTbl_of (zin_9 (List.mem_of_getElem? (i := 3) (by decide +kernel))) rfl
theorem sl_X10_years : Cond.selects RX10 yX10_years yX10_years ∈ zTbl := zTbl_of (zin_9 (List.mem_of_getElem? (i := 4) (by decide +kernel))) rfl
set_option maxRecDepth 20000 in
theorem kd_X10_years : Cond.code yX10_years prog_12_method_67_code 3 (Option.some FieldType.int) ∈ zTbl := zTbl_of (zin_9 (List.mem_of_getElem? (i := 5) rfl)) rfl
theorem wM_L_189 : Cond.methodLink RL 189 yX10_undo ∈ zTbl := zTbl_of (zin_9 (List.mem_of_getElem? (i := 6) (by decide +kernel))) rfl
theorem mi_X10_undo : Cond.instanceMethod yX10_undo ∈ zTbl := zTbl_of (zin_9 (List.mem_of_getElem? (i := 7) (by decide +kernel))) rfl
theorem sl_X10_undo : Cond.selects RX10 yX10_undo yX10_undo ∈ zTbl := zTbl_of (zin_9 (List.mem_of_getElem? (i := 8) (by decide +kernel))) rfl
set_option maxRecDepth 20000 in
theorem kd_X10_undo : Cond.code yX10_undo prog_12_method_68_code 4 (Option.some FieldType.int) ∈ zTbl := zTbl_of (zin_9 (List.mem_of_getElem? (i := 9) rfl)) rfl
theorem wM_L_193 : Cond.methodLink RL 193 yX10_taken ∈ zTbl := zTbl_of (zin_9 (List.mem_of_getElem? (i := 10) (by decide +kernel))) rfl
theorem mi_X10_taken : Cond.instanceMethod yX10_taken ∈ zTbl := zTbl_of (zin_9 (List.mem_of_getElem? (i := 11) (by decide +kernel))) rfl
theorem sl_X10_taken : Cond.selects RX10 yX10_taken yX10_taken ∈ zTbl := zTbl_of (zin_9 (List.mem_of_getElem? (i := 12) (by decide +kernel))) rfl
set_option maxRecDepth 20000 in
theorem kd_X10_taken : Cond.code yX10_taken prog_12_method_69_code 2 (Option.some FieldType.int) ∈ zTbl := zTbl_of (zin_9 (List.mem_of_getElem? (i := 13) rfl)) rfl
theorem wM_L_196 : Cond.methodLink RL 196 yX10_sums ∈ zTbl := zTbl_of (zin_9 (List.mem_of_getElem? (i := 14) (by decide +kernel))) rfl
theorem mi_X10_sums : Cond.instanceMethod yX10_sums ∈ zTbl := zTbl_of (zin_9 (List.mem_of_getElem? (i := 15) (by decide +kernel))) rfl
theorem sl_X10_sums : Cond.selects RX10 yX10_sums yX10_sums ∈ zTbl := zTbl_of (zin_9 (List.mem_of_getElem? (i := 16) (by decide +kernel))) rfl
set_option maxRecDepth 20000 in
theorem kd_X10_sums : Cond.code yX10_sums prog_12_method_70_code 2 (Option.some FieldType.int) ∈ zTbl := zTbl_of (zin_9 (List.mem_of_getElem? (i := 17) rfl)) rfl
theorem wM_L_199 : Cond.methodLink RL 199 yX10_die ∈ zTbl := zTbl_of (zin_9 (List.mem_of_getElem? (i := 18) (by decide +kernel))) rfl
theorem mi_X10_die : Cond.instanceMethod yX10_die ∈ zTbl := zTbl_of (zin_9 (List.mem_of_getElem? (i := 19) (by decide +kernel))) rfl
theorem sl_X10_die : Cond.selects RX10 yX10_die yX10_die ∈ zTbl := zTbl_of (zin_9 (List.mem_of_getElem? (i := 20) (by decide +kernel))) rfl
set_option maxRecDepth 20000 in
theorem kd_X10_die : Cond.code yX10_die prog_12_method_71_code 3 (Option.some FieldType.int) ∈ zTbl := zTbl_of (zin_9 (List.mem_of_getElem? (i := 21) rfl)) rfl
theorem wM_L_202 : Cond.methodLink RL 202 yX10_praise ∈ zTbl := zTbl_of (zin_9 (List.mem_of_getElem? (i := 22) (by decide +kernel))) rfl
theorem mi_X10_praise : Cond.instanceMethod yX10_praise ∈ zTbl := zTbl_of (zin_9 (List.mem_of_getElem? (i := 23) (by decide +kernel))) rfl
theorem sl_X10_praise : Cond.selects RX10 yX10_praise yX10_praise ∈ zTbl := zTbl_of (zin_9 (List.mem_of_getElem? (i := 24) (by decide +kernel))) rfl
set_option maxRecDepth 20000 in
theorem kd_X10_praise : Cond.code yX10_praise prog_12_method_72_code 4 (Option.some FieldType.int) ∈ zTbl := zTbl_of (zin_9 (List.mem_of_getElem? (i := 25) rfl)) rfl
theorem wM_L_205 : Cond.methodLink RL 205 yX10_ahead ∈ zTbl := zTbl_of (zin_9 (List.mem_of_getElem? (i := 26) (by decide +kernel))) rfl
theorem mi_X10_ahead : Cond.instanceMethod yX10_ahead ∈ zTbl := zTbl_of (zin_9 (List.mem_of_getElem? (i := 27) (by decide +kernel))) rfl
theorem sl_X10_ahead : Cond.selects RX10 yX10_ahead yX10_ahead ∈ zTbl := zTbl_of (zin_9 (List.mem_of_getElem? (i := 28) (by decide +kernel))) rfl
set_option maxRecDepth 20000 in
theorem kd_X10_ahead : Cond.code yX10_ahead prog_12_method_73_code 4 (Option.some FieldType.int) ∈ zTbl := zTbl_of (zin_9 (List.mem_of_getElem? (i := 29) rfl)) rfl
theorem wM_L_208 : Cond.methodLink RL 208 yX10_when ∈ zTbl := zTbl_of (zin_9 (List.mem_of_getElem? (i := 30) (by decide +kernel))) rfl
theorem mi_X10_when : Cond.instanceMethod yX10_when ∈ zTbl := zTbl_of (zin_9 (List.mem_of_getElem? (i := 31) (by decide +kernel))) rfl
theorem sl_X10_when : Cond.selects RX10 yX10_when yX10_when ∈ zTbl := zTbl_of (zin_9 (List.mem_of_getElem? (i := 32) (by decide +kernel))) rfl
set_option maxRecDepth 20000 in
theorem kd_X10_when : Cond.code yX10_when prog_12_method_75_code 2 (Option.some FieldType.int) ∈ zTbl := zTbl_of (zin_9 (List.mem_of_getElem? (i := 33) rfl)) rfl
theorem wM_X10_362 : Cond.methodLink RX10 362 yX10_whenOf ∈ zTbl := zTbl_of (zin_9 (List.mem_of_getElem? (i := 34) (by decide +kernel))) rfl
theorem mi_X10_whenOf : Cond.instanceMethod yX10_whenOf ∈ zTbl := zTbl_of (zin_9 (List.mem_of_getElem? (i := 36) (by decide +kernel))) rfl
set_option maxRecDepth 20000 in
theorem kd_X10_whenOf : Cond.code yX10_whenOf prog_12_method_74_code 5 (Option.some FieldType.int) ∈ zTbl := zTbl_of (zin_9 (List.mem_of_getElem? (i := 37) rfl)) rfl
theorem wM_L_212 : Cond.methodLink RL 212 yX10_breaks ∈ zTbl := zTbl_of (zin_9 (List.mem_of_getElem? (i := 38) (by decide +kernel))) rfl
theorem mi_X10_breaks : Cond.instanceMethod yX10_breaks ∈ zTbl := zTbl_of (zin_9 (List.mem_of_getElem? (i := 39) (by decide +kernel))) rfl
theorem sl_X10_breaks : Cond.selects RX10 yX10_breaks yX10_breaks ∈ zTbl := zTbl_of (zin_9 (List.mem_of_getElem? (i := 40) (by decide +kernel))) rfl
set_option maxRecDepth 20000 in
theorem kd_X10_breaks : Cond.code yX10_breaks prog_12_method_76_code 1 (Option.some FieldType.int) ∈ zTbl := zTbl_of (zin_9 (List.mem_of_getElem? (i := 41) rfl)) rfl
theorem wM_L_268 : Cond.methodLink RL 268 yX10_stays ∈ zTbl := zTbl_of (zin_9 (List.mem_of_getElem? (i := 42) (by decide +kernel))) rfl
theorem mi_X10_stays : Cond.instanceMethod yX10_stays ∈ zTbl := zTbl_of (zin_9 (List.mem_of_getElem? (i := 43) (by decide +kernel))) rfl
theorem sl_X10_stays : Cond.selects RX10 yX10_stays yX10_stays ∈ zTbl := zTbl_of (zin_9 (List.mem_of_getElem? (i := 44) (by decide +kernel))) rfl
set_option maxRecDepth 20000 in
theorem kd_X10_stays : Cond.code yX10_stays prog_12_method_77_code 3 (Option.some FieldType.int) ∈ zTbl := zTbl_of (zin_9 (List.mem_of_getElem? (i := 45) rfl)) rfl
theorem wM_L_292 : Cond.methodLink RL 292 yX10_heir ∈ zTbl := zTbl_of (zin_9 (List.mem_of_getElem? (i := 46) (by decide +kernel))) rfl
theorem mi_X10_heir : Cond.instanceMethod yX10_heir ∈ zTbl := zTbl_of (zin_9 (List.mem_of_getElem? (i := 47) (by decide +kernel))) rfl
theorem sl_X10_heir : Cond.selects RX10 yX10_heir yX10_heir ∈ zTbl := zTbl_of (zin_9 (List.mem_of_getElem? (i := 48) (by decide +kernel))) rfl
set_option maxRecDepth 20000 in
theorem kd_X10_heir : Cond.code yX10_heir prog_12_method_78_code 3 (Option.some FieldType.int) ∈ zTbl := zTbl_of (zin_9 (List.mem_of_getElem? (i := 49) rfl)) rfl
theorem wM_L_271 : Cond.methodLink RL 271 yX10_doomed ∈ zTbl := zTbl_of (zin_9 (List.mem_of_getElem? (i := 50) (by decide +kernel))) rfl
theorem mi_X10_doomed : Cond.instanceMethod yX10_doomed ∈ zTbl := zTbl_of (zin_9 (List.mem_of_getElem? (i := 51) (by decide +kernel))) rfl
theorem sl_X10_doomed : Cond.selects RX10 yX10_doomed yX10_doomed ∈ zTbl := zTbl_of (zin_9 (List.mem_of_getElem? (i := 52) (by decide +kernel))) rfl
set_option maxRecDepth 20000 in
theorem kd_X10_doomed : Cond.code yX10_doomed prog_12_method_79_code 4 (Option.some FieldType.int) ∈ zTbl := zTbl_of (zin_9 (List.mem_of_getElem? (i := 53) rfl)) rfl
theorem wM_L_216 : Cond.methodLink RL 216 yX10_praises ∈ zTbl := zTbl_of (zin_9 (List.mem_of_getElem? (i := 54) (by decide +kernel))) rfl
theorem mi_X10_praises : Cond.instanceMethod yX10_praises ∈ zTbl := zTbl_of (zin_9 (List.mem_of_getElem? (i := 55) (by decide +kernel))) rfl
theorem sl_X10_praises : Cond.selects RX10 yX10_praises yX10_praises ∈ zTbl := zTbl_of (zin_9 (List.mem_of_getElem? (i := 56) (by decide +kernel))) rfl
set_option maxRecDepth 20000 in
theorem kd_X10_praises : Cond.code yX10_praises prog_12_method_81_code 5 (Option.some FieldType.int) ∈ zTbl := zTbl_of (zin_9 (List.mem_of_getElem? (i := 57) rfl)) rfl
theorem wM_X10_371 : Cond.methodLink RX10 371 yX10_hopesFor ∈ zTbl := zTbl_of (zin_9 (List.mem_of_getElem? (i := 58) (by decide +kernel))) rfl
theorem mi_X10_hopesFor : Cond.instanceMethod yX10_hopesFor ∈ zTbl := zTbl_of (zin_9 (List.mem_of_getElem? (i := 60) (by decide +kernel))) rfl
set_option maxRecDepth 20000 in
theorem kd_X10_hopesFor : Cond.code yX10_hopesFor prog_12_method_80_code 9 (Option.none : Option FieldType) ∈ zTbl := zTbl_of (zin_9 (List.mem_of_getElem? (i := 61) rfl)) rfl
theorem wM_L_265 : Cond.methodLink RL 265 yX10_wants ∈ zTbl := zTbl_of (zin_9 (List.mem_of_getElem? (i := 62) (by decide +kernel))) rfl
theorem mi_X10_wants : Cond.instanceMethod yX10_wants ∈ zTbl := zTbl_of (zin_9 (List.mem_of_getElem? (i := 63) (by decide +kernel))) rfl
theorem sl_X10_wants : Cond.selects RX10 yX10_wants yX10_wants ∈ zTbl := zTbl_of (zin_9 (List.mem_of_getElem? (i := 64) (by decide +kernel))) rfl
set_option maxRecDepth 20000 in
theorem kd_X10_wants : Cond.code yX10_wants prog_12_method_83_code 3 (Option.some FieldType.int) ∈ zTbl := zTbl_of (zin_9 (List.mem_of_getElem? (i := 65) rfl)) rfl
theorem wM_X10_375 : Cond.methodLink RX10 375 yX10_takenBy ∈ zTbl := zTbl_of (zin_9 (List.mem_of_getElem? (i := 66) (by decide +kernel))) rfl
theorem mi_X10_takenBy : Cond.instanceMethod yX10_takenBy ∈ zTbl := zTbl_of (zin_9 (List.mem_of_getElem? (i := 68) (by decide +kernel))) rfl
set_option maxRecDepth 20000 in
theorem kd_X10_takenBy : Cond.code yX10_takenBy prog_12_method_82_code 5 (Option.some FieldType.int) ∈ zTbl := zTbl_of (zin_9 (List.mem_of_getElem? (i := 69) rfl)) rfl
theorem wM_L_252 : Cond.methodLink RL 252 yX10_patrons ∈ zTbl := zTbl_of (zin_9 (List.mem_of_getElem? (i := 70) (by decide +kernel))) rfl
theorem mi_X10_patrons : Cond.instanceMethod yX10_patrons ∈ zTbl := zTbl_of (zin_9 (List.mem_of_getElem? (i := 71) (by decide +kernel))) rfl
theorem sl_X10_patrons : Cond.selects RX10 yX10_patrons yX10_patrons ∈ zTbl := zTbl_of (zin_9 (List.mem_of_getElem? (i := 72) (by decide +kernel))) rfl
set_option maxRecDepth 20000 in
theorem kd_X10_patrons : Cond.code yX10_patrons prog_12_method_86_code 9 (Option.some FieldType.int) ∈ zTbl := zTbl_of (zin_9 (List.mem_of_getElem? (i := 73) rfl)) rfl
theorem wM_X10_378 : Cond.methodLink RX10 378 yX10_mayDo ∈ zTbl := zTbl_of (zin_9 (List.mem_of_getElem? (i := 74) (by decide +kernel))) rfl
theorem mi_X10_mayDo : Cond.instanceMethod yX10_mayDo ∈ zTbl := zTbl_of (zin_9 (List.mem_of_getElem? (i := 76) (by decide +kernel))) rfl
set_option maxRecDepth 20000 in
theorem kd_X10_mayDo : Cond.code yX10_mayDo prog_12_method_85_code 2 (Option.some FieldType.boolean) ∈ zTbl := zTbl_of (zin_9 (List.mem_of_getElem? (i := 77) rfl)) rfl
theorem wM_X10_381 : Cond.methodLink RX10 381 yX10_isQuiet ∈ zTbl := zTbl_of (zin_9 (List.mem_of_getElem? (i := 78) (by decide +kernel))) rfl
theorem mi_X10_isQuiet : Cond.instanceMethod yX10_isQuiet ∈ zTbl := zTbl_of (zin_9 (List.mem_of_getElem? (i := 80) (by decide +kernel))) rfl
set_option maxRecDepth 20000 in
theorem kd_X10_isQuiet : Cond.code yX10_isQuiet prog_12_method_84_code 6 (Option.some FieldType.boolean) ∈ zTbl := zTbl_of (zin_9 (List.mem_of_getElem? (i := 81) rfl)) rfl
theorem wM_L_229 : Cond.methodLink RL 229 yX10_right ∈ zTbl := zTbl_of (zin_9 (List.mem_of_getElem? (i := 82) (by decide +kernel))) rfl
theorem mi_X10_right : Cond.instanceMethod yX10_right ∈ zTbl := zTbl_of (zin_9 (List.mem_of_getElem? (i := 83) (by decide +kernel))) rfl
theorem sl_X10_right : Cond.selects RX10 yX10_right yX10_right ∈ zTbl := zTbl_of (zin_9 (List.mem_of_getElem? (i := 84) (by decide +kernel))) rfl
set_option maxRecDepth 20000 in
theorem kd_X10_right : Cond.code yX10_right prog_12_method_88_code 1 (Option.some FieldType.int) ∈ zTbl := zTbl_of (zin_9 (List.mem_of_getElem? (i := 85) rfl)) rfl
theorem wM_X10_385 : Cond.methodLink RX10 385 yX10_rightLines ∈ zTbl := zTbl_of (zin_9 (List.mem_of_getElem? (i := 86) (by decide +kernel))) rfl
theorem mi_X10_rightLines : Cond.instanceMethod yX10_rightLines ∈ zTbl := zTbl_of (zin_9 (List.mem_of_getElem? (i := 88) (by decide +kernel))) rfl
set_option maxRecDepth 20000 in
theorem kd_X10_rightLines : Cond.code yX10_rightLines prog_12_method_87_code 4 (Option.some FieldType.int) ∈ zTbl := zTbl_of (zin_9 (List.mem_of_getElem? (i := 89) rfl)) rfl
theorem wM_L_219 : Cond.methodLink RL 219 yX10_beliefs ∈ zTbl := zTbl_of (zin_9 (List.mem_of_getElem? (i := 90) (by decide +kernel))) rfl
theorem mi_X10_beliefs : Cond.instanceMethod yX10_beliefs ∈ zTbl := zTbl_of (zin_9 (List.mem_of_getElem? (i := 91) (by decide +kernel))) rfl
theorem sl_X10_beliefs : Cond.selects RX10 yX10_beliefs yX10_beliefs ∈ zTbl := zTbl_of (zin_9 (List.mem_of_getElem? (i := 92) (by decide +kernel))) rfl
set_option maxRecDepth 20000 in
theorem kd_X10_beliefs : Cond.code yX10_beliefs prog_12_method_90_code 3 (Option.some FieldType.int) ∈ zTbl := zTbl_of (zin_9 (List.mem_of_getElem? (i := 93) rfl)) rfl
theorem wM_X10_394 : Cond.methodLink RX10 394 yX10_laysBeliefs ∈ zTbl := zTbl_of (zin_9 (List.mem_of_getElem? (i := 94) (by decide +kernel))) rfl
theorem mi_X10_laysBeliefs : Cond.instanceMethod yX10_laysBeliefs ∈ zTbl := zTbl_of (zin_9 (List.mem_of_getElem? (i := 96) (by decide +kernel))) rfl
set_option maxRecDepth 20000 in
theorem kd_X10_laysBeliefs : Cond.code yX10_laysBeliefs prog_12_method_89_code 8 (Option.none : Option FieldType) ∈ zTbl := zTbl_of (zin_9 (List.mem_of_getElem? (i := 97) rfl)) rfl
theorem wM_L_222 : Cond.methodLink RL 222 yX10_sure ∈ zTbl := zTbl_of (zin_9 (List.mem_of_getElem? (i := 98) (by decide +kernel))) rfl
theorem mi_X10_sure : Cond.instanceMethod yX10_sure ∈ zTbl := zTbl_of (zin_9 (List.mem_of_getElem? (i := 99) (by decide +kernel))) rfl
theorem sl_X10_sure : Cond.selects RX10 yX10_sure yX10_sure ∈ zTbl := zTbl_of (zin_9 (List.mem_of_getElem? (i := 100) (by decide +kernel))) rfl
set_option maxRecDepth 20000 in
theorem kd_X10_sure : Cond.code yX10_sure prog_12_method_91_code 3 (Option.some FieldType.int) ∈ zTbl := zTbl_of (zin_9 (List.mem_of_getElem? (i := 101) rfl)) rfl
theorem wM_L_225 : Cond.methodLink RL 225 yX10_dead ∈ zTbl := zTbl_of (zin_9 (List.mem_of_getElem? (i := 102) (by decide +kernel))) rfl
theorem mi_X10_dead : Cond.instanceMethod yX10_dead ∈ zTbl := zTbl_of (zin_9 (List.mem_of_getElem? (i := 103) (by decide +kernel))) rfl
theorem sl_X10_dead : Cond.selects RX10 yX10_dead yX10_dead ∈ zTbl := zTbl_of (zin_9 (List.mem_of_getElem? (i := 104) (by decide +kernel))) rfl
set_option maxRecDepth 20000 in
theorem kd_X10_dead : Cond.code yX10_dead prog_12_method_92_code 4 (Option.some FieldType.int) ∈ zTbl := zTbl_of (zin_9 (List.mem_of_getElem? (i := 105) rfl)) rfl
theorem kC_RX10_397 : Cond.constant RX10 397 (65536 : Int32) ∈ zTbl := zTbl_of (zin_9 (List.mem_of_getElem? (i := 106) (by decide +kernel))) rfl
theorem wM_L_232 : Cond.methodLink RL 232 yX10_enemy ∈ zTbl := zTbl_of (zin_9 (List.mem_of_getElem? (i := 107) (by decide +kernel))) rfl
theorem mi_X10_enemy : Cond.instanceMethod yX10_enemy ∈ zTbl := zTbl_of (zin_9 (List.mem_of_getElem? (i := 108) (by decide +kernel))) rfl
theorem sl_X10_enemy : Cond.selects RX10 yX10_enemy yX10_enemy ∈ zTbl := zTbl_of (zin_9 (List.mem_of_getElem? (i := 109) (by decide +kernel))) rfl
set_option maxRecDepth 20000 in
theorem kd_X10_enemy : Cond.code yX10_enemy prog_12_method_94_code 2 (Option.some FieldType.int) ∈ zTbl := zTbl_of (zin_9 (List.mem_of_getElem? (i := 110) rfl)) rfl
theorem wM_X10_398 : Cond.methodLink RX10 398 yX10_enemyOf ∈ zTbl := zTbl_of (zin_9 (List.mem_of_getElem? (i := 111) (by decide +kernel))) rfl
theorem mi_X10_enemyOf : Cond.instanceMethod yX10_enemyOf ∈ zTbl := zTbl_of (zin_9 (List.mem_of_getElem? (i := 113) (by decide +kernel))) rfl
set_option maxRecDepth 20000 in
theorem kd_X10_enemyOf : Cond.code yX10_enemyOf prog_12_method_93_code 4 (Option.some FieldType.int) ∈ zTbl := zTbl_of (zin_9 (List.mem_of_getElem? (i := 114) rfl)) rfl
theorem wM_L_235 : Cond.methodLink RL 235 yX10_ring ∈ zTbl := zTbl_of (zin_9 (List.mem_of_getElem? (i := 115) (by decide +kernel))) rfl
theorem mi_X10_ring : Cond.instanceMethod yX10_ring ∈ zTbl := zTbl_of (zin_9 (List.mem_of_getElem? (i := 116) (by decide +kernel))) rfl
theorem sl_X10_ring : Cond.selects RX10 yX10_ring yX10_ring ∈ zTbl := zTbl_of (zin_9 (List.mem_of_getElem? (i := 117) (by decide +kernel))) rfl
set_option maxRecDepth 20000 in
theorem kd_X10_ring : Cond.code yX10_ring prog_12_method_97_code 5 (Option.some FieldType.int) ∈ zTbl := zTbl_of (zin_9 (List.mem_of_getElem? (i := 118) rfl)) rfl
theorem wM_X10_401 : Cond.methodLink RX10 401 yX10_hasRing ∈ zTbl := zTbl_of (zin_9 (List.mem_of_getElem? (i := 119) (by decide +kernel))) rfl
theorem mi_X10_hasRing : Cond.instanceMethod yX10_hasRing ∈ zTbl := zTbl_of (zin_9 (List.mem_of_getElem? (i := 121) (by decide +kernel))) rfl
set_option maxRecDepth 20000 in
theorem kd_X10_hasRing : Cond.code yX10_hasRing prog_12_method_98_code 2 (Option.some FieldType.boolean) ∈ zTbl := zTbl_of (zin_9 (List.mem_of_getElem? (i := 122) rfl)) rfl
theorem wM_X10_404 : Cond.methodLink RX10 404 yX10_ringOf ∈ zTbl := zTbl_of (zin_9 (List.mem_of_getElem? (i := 123) (by decide +kernel))) rfl
theorem mi_X10_ringOf : Cond.instanceMethod yX10_ringOf ∈ zTbl := zTbl_of (zin_9 (List.mem_of_getElem? (i := 125) (by decide +kernel))) rfl
set_option maxRecDepth 20000 in
theorem kd_X10_ringOf : Cond.code yX10_ringOf prog_12_method_95_code 5 (Option.some FieldType.int) ∈ zTbl := zTbl_of (zin_9 (List.mem_of_getElem? (i := 126) rfl)) rfl
theorem wM_X10_407 : Cond.methodLink RX10 407 yX10_ones ∈ zTbl := zTbl_of (zin_9 (List.mem_of_getElem? (i := 127) (by decide +kernel))) rfl
theorem ms_X10_ones : Cond.static yX10_ones ∈ zTbl := zTbl_of (zin_9 (List.mem_of_getElem? (i := 128) (by decide +kernel))) rfl
set_option maxRecDepth 20000 in
theorem kd_X10_ones : Cond.code yX10_ones prog_12_method_96_code 3 (Option.some FieldType.int) ∈ zTbl := zTbl_of (zin_9 (List.mem_of_getElem? (i := 129) rfl)) rfl
theorem wM_L_279 : Cond.methodLink RL 279 yX10_ringed ∈ zTbl := zTbl_of (zin_9 (List.mem_of_getElem? (i := 130) (by decide +kernel))) rfl
theorem mi_X10_ringed : Cond.instanceMethod yX10_ringed ∈ zTbl := zTbl_of (zin_9 (List.mem_of_getElem? (i := 131) (by decide +kernel))) rfl
theorem sl_X10_ringed : Cond.selects RX10 yX10_ringed yX10_ringed ∈ zTbl := zTbl_of (zin_9 (List.mem_of_getElem? (i := 132) (by decide +kernel))) rfl
set_option maxRecDepth 20000 in
theorem kd_X10_ringed : Cond.code yX10_ringed prog_12_method_99_code 3 (Option.some FieldType.int) ∈ zTbl := zTbl_of (zin_9 (List.mem_of_getElem? (i := 133) rfl)) rfl
theorem wM_L_255 : Cond.methodLink RL 255 yX10_allies ∈ zTbl := zTbl_of (zin_9 (List.mem_of_getElem? (i := 134) (by decide +kernel))) rfl
theorem mi_X10_allies : Cond.instanceMethod yX10_allies ∈ zTbl := zTbl_of (zin_9 (List.mem_of_getElem? (i := 135) (by decide +kernel))) rfl
theorem sl_X10_allies : Cond.selects RX10 yX10_allies yX10_allies ∈ zTbl := zTbl_of (zin_9 (List.mem_of_getElem? (i := 136) (by decide +kernel))) rfl
set_option maxRecDepth 20000 in
theorem kd_X10_allies : Cond.code yX10_allies prog_12_method_100_code 4 (Option.some FieldType.int) ∈ zTbl := zTbl_of (zin_9 (List.mem_of_getElem? (i := 137) rfl)) rfl
theorem wM_L_282 : Cond.methodLink RL 282 yX10_pair ∈ zTbl := zTbl_of (zin_9 (List.mem_of_getElem? (i := 138) (by decide +kernel))) rfl
theorem mi_X10_pair : Cond.instanceMethod yX10_pair ∈ zTbl := zTbl_of (zin_9 (List.mem_of_getElem? (i := 139) (by decide +kernel))) rfl
theorem sl_X10_pair : Cond.selects RX10 yX10_pair yX10_pair ∈ zTbl := zTbl_of (zin_9 (List.mem_of_getElem? (i := 140) (by decide +kernel))) rfl
set_option maxRecDepth 20000 in
theorem kd_X10_pair : Cond.code yX10_pair prog_12_method_101_code 7 (Option.some FieldType.int) ∈ zTbl := zTbl_of (zin_9 (List.mem_of_getElem? (i := 141) rfl)) rfl
theorem wM_L_258 : Cond.methodLink RL 258 yX10_rank ∈ zTbl := zTbl_of (zin_9 (List.mem_of_getElem? (i := 142) (by decide +kernel))) rfl
theorem mi_X10_rank : Cond.instanceMethod yX10_rank ∈ zTbl := zTbl_of (zin_9 (List.mem_of_getElem? (i := 143) (by decide +kernel))) rfl
theorem sl_X10_rank : Cond.selects RX10 yX10_rank yX10_rank ∈ zTbl := zTbl_of (zin_9 (List.mem_of_getElem? (i := 144) (by decide +kernel))) rfl
set_option maxRecDepth 20000 in
theorem kd_X10_rank : Cond.code yX10_rank prog_12_method_102_code 5 (Option.some FieldType.int) ∈ zTbl := zTbl_of (zin_9 (List.mem_of_getElem? (i := 145) rfl)) rfl
theorem wM_L_262 : Cond.methodLink RL 262 yX10_lead ∈ zTbl := zTbl_of (zin_9 (List.mem_of_getElem? (i := 146) (by decide +kernel))) rfl
theorem mi_X10_lead : Cond.instanceMethod yX10_lead ∈ zTbl := zTbl_of (zin_9 (List.mem_of_getElem? (i := 147) (by decide +kernel))) rfl
theorem sl_X10_lead : Cond.selects RX10 yX10_lead yX10_lead ∈ zTbl := zTbl_of (zin_9 (List.mem_of_getElem? (i := 148) (by decide +kernel))) rfl
set_option maxRecDepth 20000 in
theorem kd_X10_lead : Cond.code yX10_lead prog_12_method_103_code 4 (Option.some FieldType.int) ∈ zTbl := zTbl_of (zin_9 (List.mem_of_getElem? (i := 149) rfl)) rfl
theorem wM_L_239 : Cond.methodLink RL 239 yX10_vote ∈ zTbl := zTbl_of (zin_9 (List.mem_of_getElem? (i := 150) (by decide +kernel))) rfl
theorem mi_X10_vote : Cond.instanceMethod yX10_vote ∈ zTbl := zTbl_of (zin_9 (List.mem_of_getElem? (i := 151) (by decide +kernel))) rfl
theorem sl_X10_vote : Cond.selects RX10 yX10_vote yX10_vote ∈ zTbl := zTbl_of (zin_9 (List.mem_of_getElem? (i := 152) (by decide +kernel))) rfl
set_option maxRecDepth 20000 in
theorem kd_X10_vote : Cond.code yX10_vote prog_12_method_105_code 4 (Option.some FieldType.int) ∈ zTbl := zTbl_of (zin_9 (List.mem_of_getElem? (i := 153) rfl)) rfl
theorem wM_X10_410 : Cond.methodLink RX10 410 yX10_voteOf ∈ zTbl := zTbl_of (zin_9 (List.mem_of_getElem? (i := 154) (by decide +kernel))) rfl
theorem mi_X10_voteOf : Cond.instanceMethod yX10_voteOf ∈ zTbl := zTbl_of (zin_9 (List.mem_of_getElem? (i := 156) (by decide +kernel))) rfl
set_option maxRecDepth 20000 in
theorem kd_X10_voteOf : Cond.code yX10_voteOf prog_12_method_104_code 7 (Option.some FieldType.int) ∈ zTbl := zTbl_of (zin_9 (List.mem_of_getElem? (i := 157) rfl)) rfl
theorem wM_L_242 : Cond.methodLink RL 242 yX10_skip ∈ zTbl := zTbl_of (zin_9 (List.mem_of_getElem? (i := 158) (by decide +kernel))) rfl
theorem mi_X10_skip : Cond.instanceMethod yX10_skip ∈ zTbl := zTbl_of (zin_9 (List.mem_of_getElem? (i := 159) (by decide +kernel))) rfl
theorem sl_X10_skip : Cond.selects RX10 yX10_skip yX10_skip ∈ zTbl := zTbl_of (zin_9 (List.mem_of_getElem? (i := 160) (by decide +kernel))) rfl
set_option maxRecDepth 20000 in
theorem kd_X10_skip : Cond.code yX10_skip prog_12_method_106_code 6 (Option.some FieldType.int) ∈ zTbl := zTbl_of (zin_9 (List.mem_of_getElem? (i := 161) rfl)) rfl
theorem wM_L_246 : Cond.methodLink RL 246 yX10_middle ∈ zTbl := zTbl_of (zin_9 (List.mem_of_getElem? (i := 162) (by decide +kernel))) rfl
theorem mi_X10_middle : Cond.instanceMethod yX10_middle ∈ zTbl := zTbl_of (zin_9 (List.mem_of_getElem? (i := 163) (by decide +kernel))) rfl
theorem sl_X10_middle : Cond.selects RX10 yX10_middle yX10_middle ∈ zTbl := zTbl_of (zin_9 (List.mem_of_getElem? (i := 164) (by decide +kernel))) rfl
set_option maxRecDepth 20000 in
theorem kd_X10_middle : Cond.code yX10_middle prog_12_method_107_code 6 (Option.some FieldType.int) ∈ zTbl := zTbl_of (zin_9 (List.mem_of_getElem? (i := 165) rfl)) rfl
theorem wM_L_249 : Cond.methodLink RL 249 yX10_flip ∈ zTbl := zTbl_of (zin_9 (List.mem_of_getElem? (i := 166) (by decide +kernel))) rfl
theorem mi_X10_flip : Cond.instanceMethod yX10_flip ∈ zTbl := zTbl_of (zin_9 (List.mem_of_getElem? (i := 167) (by decide +kernel))) rfl
theorem sl_X10_flip : Cond.selects RX10 yX10_flip yX10_flip ∈ zTbl := zTbl_of (zin_9 (List.mem_of_getElem? (i := 168) (by decide +kernel))) rfl
set_option maxRecDepth 20000 in
theorem kd_X10_flip : Cond.code yX10_flip prog_12_method_108_code 7 (Option.some FieldType.int) ∈ zTbl := zTbl_of (zin_9 (List.mem_of_getElem? (i := 169) rfl)) rfl
theorem wM_L_285 : Cond.methodLink RL 285 yX10_quorum ∈ zTbl := zTbl_of (zin_9 (List.mem_of_getElem? (i := 170) (by decide +kernel))) rfl
theorem mi_X10_quorum : Cond.instanceMethod yX10_quorum ∈ zTbl := zTbl_of (zin_9 (List.mem_of_getElem? (i := 171) (by decide +kernel))) rfl
theorem sl_X10_quorum : Cond.selects RX10 yX10_quorum yX10_quorum ∈ zTbl := zTbl_of (zin_9 (List.mem_of_getElem? (i := 172) (by decide +kernel))) rfl
set_option maxRecDepth 20000 in
theorem kd_X10_quorum : Cond.code yX10_quorum prog_12_method_109_code 4 (Option.some FieldType.int) ∈ zTbl := zTbl_of (zin_9 (List.mem_of_getElem? (i := 173) rfl)) rfl
theorem wM_L_275 : Cond.methodLink RL 275 yX10_seams ∈ zTbl := zTbl_of (zin_9 (List.mem_of_getElem? (i := 174) (by decide +kernel))) rfl
theorem mi_X10_seams : Cond.instanceMethod yX10_seams ∈ zTbl := zTbl_of (zin_9 (List.mem_of_getElem? (i := 175) (by decide +kernel))) rfl
theorem sl_X10_seams : Cond.selects RX10 yX10_seams yX10_seams ∈ zTbl := zTbl_of (zin_9 (List.mem_of_getElem? (i := 176) (by decide +kernel))) rfl
set_option maxRecDepth 20000 in
theorem kd_X10_seams : Cond.code yX10_seams prog_12_method_110_code 3 (Option.some FieldType.int) ∈ zTbl := zTbl_of (zin_9 (List.mem_of_getElem? (i := 177) rfl)) rfl
theorem wM_L_289 : Cond.methodLink RL 289 yX10_kin ∈ zTbl := zTbl_of (zin_9 (List.mem_of_getElem? (i := 178) (by decide +kernel))) rfl
theorem mi_X10_kin : Cond.instanceMethod yX10_kin ∈ zTbl := zTbl_of (zin_9 (List.mem_of_getElem? (i := 179) (by decide +kernel))) rfl
theorem sl_X10_kin : Cond.selects RX10 yX10_kin yX10_kin ∈ zTbl := zTbl_of (zin_9 (List.mem_of_getElem? (i := 180) (by decide +kernel))) rfl
set_option maxRecDepth 20000 in
theorem kd_X10_kin : Cond.code yX10_kin prog_12_method_111_code 5 (Option.some FieldType.int) ∈ zTbl := zTbl_of (zin_9 (List.mem_of_getElem? (i := 181) rfl)) rfl
theorem wM_L_295 : Cond.methodLink RL 295 yX10_fates ∈ zTbl := zTbl_of (zin_9 (List.mem_of_getElem? (i := 182) (by decide +kernel))) rfl
theorem mi_X10_fates : Cond.instanceMethod yX10_fates ∈ zTbl := zTbl_of (zin_9 (List.mem_of_getElem? (i := 183) (by decide +kernel))) rfl
theorem sl_X10_fates : Cond.selects RX10 yX10_fates yX10_fates ∈ zTbl := zTbl_of (zin_9 (List.mem_of_getElem? (i := 184) (by decide +kernel))) rfl
set_option maxRecDepth 20000 in
theorem kd_X10_fates : Cond.code yX10_fates prog_12_method_113_code 5 (Option.some FieldType.int) ∈ zTbl := zTbl_of (zin_9 (List.mem_of_getElem? (i := 185) rfl)) rfl
theorem wM_X10_414 : Cond.methodLink RX10 414 yX10_fatesBy ∈ zTbl := zTbl_of (zin_9 (List.mem_of_getElem? (i := 186) (by decide +kernel))) rfl
theorem mi_X10_fatesBy : Cond.instanceMethod yX10_fatesBy ∈ zTbl := zTbl_of (zin_9 (List.mem_of_getElem? (i := 188) (by decide +kernel))) rfl
set_option maxRecDepth 20000 in
theorem kd_X10_fatesBy : Cond.code yX10_fatesBy prog_12_method_112_code 5 (Option.none : Option FieldType) ∈ zTbl := zTbl_of (zin_9 (List.mem_of_getElem? (i := 189) rfl)) rfl
theorem wM_L_299 : Cond.methodLink RL 299 yX10_span ∈ zTbl := zTbl_of (zin_9 (List.mem_of_getElem? (i := 190) (by decide +kernel))) rfl
theorem mi_X10_span : Cond.instanceMethod yX10_span ∈ zTbl := zTbl_of (zin_9 (List.mem_of_getElem? (i := 191) (by decide +kernel))) rfl
theorem sl_X10_span : Cond.selects RX10 yX10_span yX10_span ∈ zTbl := zTbl_of (zin_9 (List.mem_of_getElem? (i := 192) (by decide +kernel))) rfl
set_option maxRecDepth 20000 in
theorem kd_X10_span : Cond.code yX10_span prog_12_method_114_code 11 (Option.some FieldType.int) ∈ zTbl := zTbl_of (zin_9 (List.mem_of_getElem? (i := 193) rfl)) rfl
theorem wM_L_303 : Cond.methodLink RL 303 yX10_image ∈ zTbl := zTbl_of (zin_9 (List.mem_of_getElem? (i := 194) (by decide +kernel))) rfl
theorem mi_X10_image : Cond.instanceMethod yX10_image ∈ zTbl := zTbl_of (zin_9 (List.mem_of_getElem? (i := 195) (by decide +kernel))) rfl
theorem sl_X10_image : Cond.selects RX10 yX10_image yX10_image ∈ zTbl := zTbl_of (zin_9 (List.mem_of_getElem? (i := 196) (by decide +kernel))) rfl
set_option maxRecDepth 20000 in
theorem kd_X10_image : Cond.code yX10_image prog_12_method_115_code 1 (Option.some FieldType.int) ∈ zTbl := zTbl_of (zin_9 (List.mem_of_getElem? (i := 197) rfl)) rfl
theorem wM_L_307 : Cond.methodLink RL 307 yX10_restore ∈ zTbl := zTbl_of (zin_9 (List.mem_of_getElem? (i := 198) (by decide +kernel))) rfl
theorem mi_X10_restore : Cond.instanceMethod yX10_restore ∈ zTbl := zTbl_of (zin_9 (List.mem_of_getElem? (i := 199) (by decide +kernel))) rfl
theorem sl_X10_restore : Cond.selects RX10 yX10_restore yX10_restore ∈ zTbl := zTbl_of (zin_9 (List.mem_of_getElem? (i := 200) (by decide +kernel))) rfl
set_option maxRecDepth 20000 in
theorem kd_X10_restore : Cond.code yX10_restore prog_12_method_116_code 1 (Option.some FieldType.int) ∈ zTbl := zTbl_of (zin_9 (List.mem_of_getElem? (i := 201) rfl)) rfl
theorem wM_L_311 : Cond.methodLink RL 311 yX10_status ∈ zTbl := zTbl_of (zin_9 (List.mem_of_getElem? (i := 202) (by decide +kernel))) rfl
theorem mi_X10_status : Cond.instanceMethod yX10_status ∈ zTbl := zTbl_of (zin_9 (List.mem_of_getElem? (i := 203) (by decide +kernel))) rfl
theorem sl_X10_status : Cond.selects RX10 yX10_status yX10_status ∈ zTbl := zTbl_of (zin_9 (List.mem_of_getElem? (i := 204) (by decide +kernel))) rfl
set_option maxRecDepth 20000 in
theorem kd_X10_status : Cond.code yX10_status prog_12_method_117_code 2 (Option.some FieldType.int) ∈ zTbl := zTbl_of (zin_9 (List.mem_of_getElem? (i := 205) rfl)) rfl
theorem wM_L_315 : Cond.methodLink RL 315 yX10_count ∈ zTbl := zTbl_of (zin_9 (List.mem_of_getElem? (i := 206) (by decide +kernel))) rfl
theorem mi_X10_count : Cond.instanceMethod yX10_count ∈ zTbl := zTbl_of (zin_9 (List.mem_of_getElem? (i := 207) (by decide +kernel))) rfl
theorem sl_X10_count : Cond.selects RX10 yX10_count yX10_count ∈ zTbl := zTbl_of (zin_9 (List.mem_of_getElem? (i := 208) (by decide +kernel))) rfl
set_option maxRecDepth 20000 in
theorem kd_X10_count : Cond.code yX10_count prog_12_method_118_code 2 (Option.some FieldType.int) ∈ zTbl := zTbl_of (zin_9 (List.mem_of_getElem? (i := 209) rfl)) rfl
theorem wF_J0_9 : Cond.fieldLink RJ0 9 "java/lang/String" "value" "[B" ∈ zTbl := zTbl_of (zin_9 (List.mem_of_getElem? (i := 227) (by decide +kernel))) rfl
theorem wF_J0_15 : Cond.fieldLink RJ0 15 "java/lang/String" "coder" "B" ∈ zTbl := zTbl_of (zin_9 (List.mem_of_getElem? (i := 228) (by decide +kernel))) rfl
theorem kS_X0_116 : Cond.stringRef RX0 116 "question" ∈ lw_tbl := zin_4 (List.mem_of_getElem? (i := 70) (by decide +kernel))
theorem kS_X0_122 : Cond.stringRef RX0 122 "man" ∈ lw_tbl := zin_4 (List.mem_of_getElem? (i := 130) (by decide +kernel))
theorem kS_X0_124 : Cond.stringRef RX0 124 "seat" ∈ lw_tbl := zin_4 (List.mem_of_getElem? (i := 131) (by decide +kernel))
theorem kS_X0_126 : Cond.stringRef RX0 126 "chairs" ∈ lw_tbl := zin_4 (List.mem_of_getElem? (i := 132) (by decide +kernel))
theorem kS_X0_127 : Cond.stringRef RX0 127 "dies" ∈ lw_tbl := zin_4 (List.mem_of_getElem? (i := 133) (by decide +kernel))
theorem kS_X0_129 : Cond.stringRef RX0 129 "praise" ∈ lw_tbl := zin_4 (List.mem_of_getElem? (i := 134) (by decide +kernel))
theorem kS_X5_76 : Cond.stringRef RX5 76 "least" ∈ lw_tbl := zin_4 (List.mem_of_getElem? (i := 238) (by decide +kernel))
theorem kS_X5_85 : Cond.stringRef RX5 85 "most" ∈ lw_tbl := zin_5 (List.mem_of_getElem? (i := 4) (by decide +kernel))
theorem kS_X5_99 : Cond.stringRef RX5 99 "differs" ∈ lw_tbl := zin_5 (List.mem_of_getElem? (i := 9) (by decide +kernel))
theorem kS_X5_101 : Cond.stringRef RX5 101 "agrees" ∈ lw_tbl := zin_5 (List.mem_of_getElem? (i := 10) (by decide +kernel))
theorem kS_X5_103 : Cond.stringRef RX5 103 "waits" ∈ lw_tbl := zin_5 (List.mem_of_getElem? (i := 11) (by decide +kernel))
theorem kS_X5_105 : Cond.stringRef RX5 105 "age" ∈ lw_tbl := zin_5 (List.mem_of_getElem? (i := 12) (by decide +kernel))
theorem kS_X5_107 : Cond.stringRef RX5 107 "number" ∈ lw_tbl := zin_5 (List.mem_of_getElem? (i := 13) (by decide +kernel))
theorem kS_X5_108 : Cond.stringRef RX5 108 "year" ∈ lw_tbl := zin_5 (List.mem_of_getElem? (i := 14) (by decide +kernel))
theorem kS_X5_110 : Cond.stringRef RX5 110 "sat" ∈ lw_tbl := zin_5 (List.mem_of_getElem? (i := 15) (by decide +kernel))
theorem kS_X1_53 : Cond.stringRef RX1 53 "void" ∈ lw_tbl := zin_5 (List.mem_of_getElem? (i := 46) (by decide +kernel))
theorem zw_copy3 : Cond.initialized "java/lang/System" ∈ zTbl := zTbl_of (zin_1 (List.mem_of_getElem? (i := 21) (by decide +kernel))) rfl
theorem zw_copy2 : Cond.static arraycopyName ∈ zTbl := zTbl_of (zin_2 (List.mem_of_getElem? (i := 211) (by decide +kernel))) rfl
theorem zw_copy1 : Cond.native arraycopyName ∈ zTbl := zTbl_of (zin_2 (List.mem_of_getElem? (i := 212) (by decide +kernel))) rfl
theorem sl_X5_add : Cond.selects RX5 yX5_add yX5_add ∈ zTbl := zTbl_of (List.mem_append_left _ (List.mem_of_getElem? (i := 0) (by decide +kernel))) rfl
theorem sl_X2_agreeAcross : Cond.selects RX2 yX2_agreeAcross yX2_agreeAcross ∈ zTbl := zTbl_of (List.mem_append_left _ (List.mem_of_getElem? (i := 1) (by decide +kernel))) rfl
theorem sl_X2_eldest : Cond.selects RX2 yX2_eldest yX2_eldest ∈ zTbl := zTbl_of (List.mem_append_left _ (List.mem_of_getElem? (i := 2) (by decide +kernel))) rfl
theorem sl_X2_greatest : Cond.selects RX2 yX2_greatest yX2_greatest ∈ zTbl := zTbl_of (List.mem_append_left _ (List.mem_of_getElem? (i := 3) (by decide +kernel))) rfl
theorem sl_X3_comesAgain : Cond.selects RX3 yX3_comesAgain yX3_comesAgain ∈ zTbl := zTbl_of (List.mem_append_left _ (List.mem_of_getElem? (i := 4) (by decide +kernel))) rfl
theorem sl_X9_openText : Cond.selects RX9 yX9_openText yX9_openText ∈ zTbl := zTbl_of (List.mem_append_left _ (List.mem_of_getElem? (i := 5) (by decide +kernel))) rfl
theorem sl_X9_need : Cond.selects RX9 yX9_need yX9_need ∈ zTbl := zTbl_of (List.mem_append_left _ (List.mem_of_getElem? (i := 6) (by decide +kernel))) rfl
theorem sl_X0_readClause : Cond.selects RX0 yX0_readClause yX0_readClause ∈ zTbl := zTbl_of (List.mem_append_left _ (List.mem_of_getElem? (i := 8) (by decide +kernel))) rfl
theorem sl_X8_byteAt : Cond.selects RX8 yX8_byteAt yX8_byteAt ∈ zTbl := zTbl_of (List.mem_append_left _ (List.mem_of_getElem? (i := 9) (by decide +kernel))) rfl
theorem sl_X0_faultOf : Cond.selects RX0 yX0_faultOf yX0_faultOf ∈ zTbl := zTbl_of (List.mem_append_left _ (List.mem_of_getElem? (i := 10) (by decide +kernel))) rfl
theorem sl_X0_readQuestion : Cond.selects RX0 yX0_readQuestion yX0_readQuestion ∈ zTbl := zTbl_of (List.mem_append_left _ (List.mem_of_getElem? (i := 11) (by decide +kernel))) rfl
theorem sl_X0_readMan : Cond.selects RX0 yX0_readMan yX0_readMan ∈ zTbl := zTbl_of (List.mem_append_left _ (List.mem_of_getElem? (i := 12) (by decide +kernel))) rfl
theorem sl_X0_readSeat : Cond.selects RX0 yX0_readSeat yX0_readSeat ∈ zTbl := zTbl_of (List.mem_append_left _ (List.mem_of_getElem? (i := 13) (by decide +kernel))) rfl
theorem sl_X0_readKnownMan : Cond.selects RX0 yX0_readKnownMan yX0_readKnownMan ∈ zTbl := zTbl_of (List.mem_append_left _ (List.mem_of_getElem? (i := 14) (by decide +kernel))) rfl
theorem sl_X0_readChairs : Cond.selects RX0 yX0_readChairs yX0_readChairs ∈ zTbl := zTbl_of (List.mem_append_left _ (List.mem_of_getElem? (i := 15) (by decide +kernel))) rfl
theorem sl_X0_readDeath : Cond.selects RX0 yX0_readDeath yX0_readDeath ∈ zTbl := zTbl_of (List.mem_append_left _ (List.mem_of_getElem? (i := 16) (by decide +kernel))) rfl
theorem sl_X0_readPraise : Cond.selects RX0 yX0_readPraise yX0_readPraise ∈ zTbl := zTbl_of (List.mem_append_left _ (List.mem_of_getElem? (i := 17) (by decide +kernel))) rfl
theorem sl_X5_readSum : Cond.selects RX5 yX5_readSum yX5_readSum ∈ zTbl := zTbl_of (List.mem_append_left _ (List.mem_of_getElem? (i := 18) (by decide +kernel))) rfl
theorem sl_X5_readProduct : Cond.selects RX5 yX5_readProduct yX5_readProduct ∈ zTbl := zTbl_of (List.mem_append_left _ (List.mem_of_getElem? (i := 19) (by decide +kernel))) rfl
theorem sl_X5_readUnit : Cond.selects RX5 yX5_readUnit yX5_readUnit ∈ zTbl := zTbl_of (List.mem_append_left _ (List.mem_of_getElem? (i := 20) (by decide +kernel))) rfl
theorem sl_X5_readBraced : Cond.selects RX5 yX5_readBraced yX5_readBraced ∈ zTbl := zTbl_of (List.mem_append_left _ (List.mem_of_getElem? (i := 21) (by decide +kernel))) rfl
theorem sl_X5_readTwo : Cond.selects RX5 yX5_readTwo yX5_readTwo ∈ zTbl := zTbl_of (List.mem_append_left _ (List.mem_of_getElem? (i := 22) (by decide +kernel))) rfl
theorem sl_X5_readName : Cond.selects RX5 yX5_readName yX5_readName ∈ zTbl := zTbl_of (List.mem_append_left _ (List.mem_of_getElem? (i := 23) (by decide +kernel))) rfl
theorem sl_X1_readLine : Cond.selects RX1 yX1_readLine yX1_readLine ∈ zTbl := zTbl_of (List.mem_append_left _ (List.mem_of_getElem? (i := 24) (by decide +kernel))) rfl
theorem sl_X9_needMan : Cond.selects RX9 yX9_needMan yX9_needMan ∈ zTbl := zTbl_of (List.mem_append_left _ (List.mem_of_getElem? (i := 25) (by decide +kernel))) rfl
theorem sl_X9_needQuestion : Cond.selects RX9 yX9_needQuestion yX9_needQuestion ∈ zTbl := zTbl_of (List.mem_append_left _ (List.mem_of_getElem? (i := 26) (by decide +kernel))) rfl
theorem sl_X4_isWorthTrying : Cond.selects RX4 yX4_isWorthTrying yX4_isWorthTrying ∈ zTbl := zTbl_of (List.mem_append_left _ (List.mem_of_getElem? (i := 27) (by decide +kernel))) rfl
theorem sl_X4_praisedTill : Cond.selects RX4 yX4_praisedTill yX4_praisedTill ∈ zTbl := zTbl_of (List.mem_append_left _ (List.mem_of_getElem? (i := 28) (by decide +kernel))) rfl
theorem sl_X4_tryChoice : Cond.selects RX4 yX4_tryChoice yX4_tryChoice ∈ zTbl := zTbl_of (List.mem_append_left _ (List.mem_of_getElem? (i := 29) (by decide +kernel))) rfl
theorem sl_X4_wayTill : Cond.selects RX4 yX4_wayTill yX4_wayTill ∈ zTbl := zTbl_of (List.mem_append_left _ (List.mem_of_getElem? (i := 30) (by decide +kernel))) rfl
theorem sl_X6_holds : Cond.selects RX6 yX6_holds yX6_holds ∈ zTbl := zTbl_of (List.mem_append_left _ (List.mem_of_getElem? (i := 31) (by decide +kernel))) rfl
theorem sl_X6_noteWay : Cond.selects RX6 yX6_noteWay yX6_noteWay ∈ zTbl := zTbl_of (List.mem_append_left _ (List.mem_of_getElem? (i := 32) (by decide +kernel))) rfl
theorem sl_X6_codeBehind : Cond.selects RX6 yX6_codeBehind yX6_codeBehind ∈ zTbl := zTbl_of (List.mem_append_left _ (List.mem_of_getElem? (i := 33) (by decide +kernel))) rfl
theorem sl_X3_clearTally : Cond.selects RX3 yX3_clearTally yX3_clearTally ∈ zTbl := zTbl_of (List.mem_append_left _ (List.mem_of_getElem? (i := 34) (by decide +kernel))) rfl
theorem sl_X3_addToTally : Cond.selects RX3 yX3_addToTally yX3_addToTally ∈ zTbl := zTbl_of (List.mem_append_left _ (List.mem_of_getElem? (i := 35) (by decide +kernel))) rfl
theorem sl_X3_sideOnChair : Cond.selects RX3 yX3_sideOnChair yX3_sideOnChair ∈ zTbl := zTbl_of (List.mem_append_left _ (List.mem_of_getElem? (i := 36) (by decide +kernel))) rfl
theorem sl_X3_leadingSide : Cond.selects RX3 yX3_leadingSide yX3_leadingSide ∈ zTbl := zTbl_of (List.mem_append_left _ (List.mem_of_getElem? (i := 37) (by decide +kernel))) rfl
theorem sl_X3_leavingFor : Cond.selects RX3 yX3_leavingFor yX3_leavingFor ∈ zTbl := zTbl_of (List.mem_append_left _ (List.mem_of_getElem? (i := 38) (by decide +kernel))) rfl
theorem sl_X4_scoreThisYear : Cond.selects RX4 yX4_scoreThisYear yX4_scoreThisYear ∈ zTbl := zTbl_of (List.mem_append_left _ (List.mem_of_getElem? (i := 39) (by decide +kernel))) rfl
theorem sl_X4_raise : Cond.selects RX4 yX4_raise yX4_raise ∈ zTbl := zTbl_of (List.mem_append_left _ (List.mem_of_getElem? (i := 40) (by decide +kernel))) rfl
theorem sl_X4_isOpen : Cond.selects RX4 yX4_isOpen yX4_isOpen ∈ zTbl := zTbl_of (List.mem_append_left _ (List.mem_of_getElem? (i := 41) (by decide +kernel))) rfl
theorem sl_X4_isQuiet : Cond.selects RX4 yX4_isQuiet yX4_isQuiet ∈ zTbl := zTbl_of (List.mem_append_left _ (List.mem_of_getElem? (i := 42) (by decide +kernel))) rfl
theorem sl_X4_playFate : Cond.selects RX4 yX4_playFate yX4_playFate ∈ zTbl := zTbl_of (List.mem_append_left _ (List.mem_of_getElem? (i := 43) (by decide +kernel))) rfl
theorem sl_X4_drawDeaths : Cond.selects RX4 yX4_drawDeaths yX4_drawDeaths ∈ zTbl := zTbl_of (List.mem_append_left _ (List.mem_of_getElem? (i := 44) (by decide +kernel))) rfl
theorem sl_X10_tellsNothing : Cond.selects RX10 yX10_tellsNothing yX10_tellsNothing ∈ zTbl := zTbl_of (List.mem_append_left _ (List.mem_of_getElem? (i := 45) (by decide +kernel))) rfl
theorem sl_X10_stands : Cond.selects RX10 yX10_stands yX10_stands ∈ zTbl := zTbl_of (List.mem_append_left _ (List.mem_of_getElem? (i := 46) (by decide +kernel))) rfl
theorem sl_X10_settles : Cond.selects RX10 yX10_settles yX10_settles ∈ zTbl := zTbl_of (List.mem_append_left _ (List.mem_of_getElem? (i := 47) (by decide +kernel))) rfl
theorem sl_X10_bad : Cond.selects RX10 yX10_bad yX10_bad ∈ zTbl := zTbl_of (List.mem_append_left _ (List.mem_of_getElem? (i := 48) (by decide +kernel))) rfl
theorem sl_X10_starts : Cond.selects RX10 yX10_starts yX10_starts ∈ zTbl := zTbl_of (List.mem_append_left _ (List.mem_of_getElem? (i := 49) (by decide +kernel))) rfl
theorem sl_X10_blanks : Cond.selects RX10 yX10_blanks yX10_blanks ∈ zTbl := zTbl_of (List.mem_append_left _ (List.mem_of_getElem? (i := 50) (by decide +kernel))) rfl
theorem sl_X10_byteAt : Cond.selects RX10 yX10_byteAt yX10_byteAt ∈ zTbl := zTbl_of (List.mem_append_left _ (List.mem_of_getElem? (i := 51) (by decide +kernel))) rfl
theorem sl_X10_clause : Cond.selects RX10 yX10_clause yX10_clause ∈ zTbl := zTbl_of (List.mem_append_left _ (List.mem_of_getElem? (i := 52) (by decide +kernel))) rfl
theorem sl_X10_kindHere : Cond.selects RX10 yX10_kindHere yX10_kindHere ∈ zTbl := zTbl_of (List.mem_append_left _ (List.mem_of_getElem? (i := 53) (by decide +kernel))) rfl
theorem sl_X10_isWord : Cond.selects RX10 yX10_isWord yX10_isWord ∈ zTbl := zTbl_of (List.mem_append_left _ (List.mem_of_getElem? (i := 54) (by decide +kernel))) rfl
theorem sl_X10_wordHere : Cond.selects RX10 yX10_wordHere yX10_wordHere ∈ zTbl := zTbl_of (List.mem_append_left _ (List.mem_of_getElem? (i := 55) (by decide +kernel))) rfl
theorem sl_X10_wrong : Cond.selects RX10 yX10_wrong yX10_wrong ∈ zTbl := zTbl_of (List.mem_append_left _ (List.mem_of_getElem? (i := 56) (by decide +kernel))) rfl
theorem sl_X10_isFull : Cond.selects RX10 yX10_isFull yX10_isFull ∈ zTbl := zTbl_of (List.mem_append_left _ (List.mem_of_getElem? (i := 57) (by decide +kernel))) rfl
theorem sl_X10_skipWord : Cond.selects RX10 yX10_skipWord yX10_skipWord ∈ zTbl := zTbl_of (List.mem_append_left _ (List.mem_of_getElem? (i := 58) (by decide +kernel))) rfl
theorem sl_X10_number : Cond.selects RX10 yX10_number yX10_number ∈ zTbl := zTbl_of (List.mem_append_left _ (List.mem_of_getElem? (i := 59) (by decide +kernel))) rfl
theorem sl_X10_manHere : Cond.selects RX10 yX10_manHere yX10_manHere ∈ zTbl := zTbl_of (List.mem_append_left _ (List.mem_of_getElem? (i := 60) (by decide +kernel))) rfl
theorem sl_X10_sign : Cond.selects RX10 yX10_sign yX10_sign ∈ zTbl := zTbl_of (List.mem_append_left _ (List.mem_of_getElem? (i := 61) (by decide +kernel))) rfl
theorem sl_X10_ends : Cond.selects RX10 yX10_ends yX10_ends ∈ zTbl := zTbl_of (List.mem_append_left _ (List.mem_of_getElem? (i := 62) (by decide +kernel))) rfl
theorem sl_X10_sum : Cond.selects RX10 yX10_sum yX10_sum ∈ zTbl := zTbl_of (List.mem_append_left _ (List.mem_of_getElem? (i := 63) (by decide +kernel))) rfl
theorem sl_X10_product : Cond.selects RX10 yX10_product yX10_product ∈ zTbl := zTbl_of (List.mem_append_left _ (List.mem_of_getElem? (i := 64) (by decide +kernel))) rfl
theorem sl_X10_one : Cond.selects RX10 yX10_one yX10_one ∈ zTbl := zTbl_of (List.mem_append_left _ (List.mem_of_getElem? (i := 65) (by decide +kernel))) rfl
theorem sl_X10_opens : Cond.selects RX10 yX10_opens yX10_opens ∈ zTbl := zTbl_of (List.mem_append_left _ (List.mem_of_getElem? (i := 66) (by decide +kernel))) rfl
theorem sl_X10_notes : Cond.selects RX10 yX10_notes yX10_notes ∈ zTbl := zTbl_of (List.mem_append_left _ (List.mem_of_getElem? (i := 67) (by decide +kernel))) rfl
theorem sl_X10_knownHere : Cond.selects RX10 yX10_knownHere yX10_knownHere ∈ zTbl := zTbl_of (List.mem_append_left _ (List.mem_of_getElem? (i := 68) (by decide +kernel))) rfl
theorem sl_X10_takes : Cond.selects RX10 yX10_takes yX10_takes ∈ zTbl := zTbl_of (List.mem_append_left _ (List.mem_of_getElem? (i := 69) (by decide +kernel))) rfl
theorem sl_X10_takesSign : Cond.selects RX10 yX10_takesSign yX10_takesSign ∈ zTbl := zTbl_of (List.mem_append_left _ (List.mem_of_getElem? (i := 70) (by decide +kernel))) rfl
theorem sl_X10_stateMany : Cond.selects RX10 yX10_stateMany yX10_stateMany ∈ zTbl := zTbl_of (List.mem_append_left _ (List.mem_of_getElem? (i := 71) (by decide +kernel))) rfl
theorem sl_X10_isMan : Cond.selects RX10 yX10_isMan yX10_isMan ∈ zTbl := zTbl_of (List.mem_append_left _ (List.mem_of_getElem? (i := 72) (by decide +kernel))) rfl
theorem sl_X10_isQuestion : Cond.selects RX10 yX10_isQuestion yX10_isQuestion ∈ zTbl := zTbl_of (List.mem_append_left _ (List.mem_of_getElem? (i := 73) (by decide +kernel))) rfl
theorem sl_X10_differsOf : Cond.selects RX10 yX10_differsOf yX10_differsOf ∈ zTbl := zTbl_of (List.mem_append_left _ (List.mem_of_getElem? (i := 74) (by decide +kernel))) rfl
theorem sl_X10_scoreOf : Cond.selects RX10 yX10_scoreOf yX10_scoreOf ∈ zTbl := zTbl_of (List.mem_append_left _ (List.mem_of_getElem? (i := 75) (by decide +kernel))) rfl
theorem sl_X10_byLaw : Cond.selects RX10 yX10_byLaw yX10_byLaw ∈ zTbl := zTbl_of (List.mem_append_left _ (List.mem_of_getElem? (i := 76) (by decide +kernel))) rfl
theorem sl_X10_praiseOf : Cond.selects RX10 yX10_praiseOf yX10_praiseOf ∈ zTbl := zTbl_of (List.mem_append_left _ (List.mem_of_getElem? (i := 77) (by decide +kernel))) rfl
theorem sl_X10_goes : Cond.selects RX10 yX10_goes yX10_goes ∈ zTbl := zTbl_of (List.mem_append_left _ (List.mem_of_getElem? (i := 78) (by decide +kernel))) rfl
theorem sl_X10_deathsOf : Cond.selects RX10 yX10_deathsOf yX10_deathsOf ∈ zTbl := zTbl_of (List.mem_append_left _ (List.mem_of_getElem? (i := 79) (by decide +kernel))) rfl
theorem sl_X10_dies : Cond.selects RX10 yX10_dies yX10_dies ∈ zTbl := zTbl_of (List.mem_append_left _ (List.mem_of_getElem? (i := 80) (by decide +kernel))) rfl
theorem sl_X10_fatesOf : Cond.selects RX10 yX10_fatesOf yX10_fatesOf ∈ zTbl := zTbl_of (List.mem_append_left _ (List.mem_of_getElem? (i := 81) (by decide +kernel))) rfl
theorem sl_X10_chosen : Cond.selects RX10 yX10_chosen yX10_chosen ∈ zTbl := zTbl_of (List.mem_append_left _ (List.mem_of_getElem? (i := 82) (by decide +kernel))) rfl
theorem sl_X10_whenOf : Cond.selects RX10 yX10_whenOf yX10_whenOf ∈ zTbl := zTbl_of (List.mem_append_left _ (List.mem_of_getElem? (i := 83) (by decide +kernel))) rfl
theorem sl_X10_hopesFor : Cond.selects RX10 yX10_hopesFor yX10_hopesFor ∈ zTbl := zTbl_of (List.mem_append_left _ (List.mem_of_getElem? (i := 84) (by decide +kernel))) rfl
theorem sl_X10_takenBy : Cond.selects RX10 yX10_takenBy yX10_takenBy ∈ zTbl := zTbl_of (List.mem_append_left _ (List.mem_of_getElem? (i := 85) (by decide +kernel))) rfl
theorem sl_X10_mayDo : Cond.selects RX10 yX10_mayDo yX10_mayDo ∈ zTbl := zTbl_of (List.mem_append_left _ (List.mem_of_getElem? (i := 86) (by decide +kernel))) rfl
theorem sl_X10_isQuiet : Cond.selects RX10 yX10_isQuiet yX10_isQuiet ∈ zTbl := zTbl_of (List.mem_append_left _ (List.mem_of_getElem? (i := 87) (by decide +kernel))) rfl
theorem sl_X10_rightLines : Cond.selects RX10 yX10_rightLines yX10_rightLines ∈ zTbl := zTbl_of (List.mem_append_left _ (List.mem_of_getElem? (i := 88) (by decide +kernel))) rfl
theorem sl_X10_laysBeliefs : Cond.selects RX10 yX10_laysBeliefs yX10_laysBeliefs ∈ zTbl := zTbl_of (List.mem_append_left _ (List.mem_of_getElem? (i := 89) (by decide +kernel))) rfl
theorem sl_X10_enemyOf : Cond.selects RX10 yX10_enemyOf yX10_enemyOf ∈ zTbl := zTbl_of (List.mem_append_left _ (List.mem_of_getElem? (i := 90) (by decide +kernel))) rfl
theorem sl_X10_hasRing : Cond.selects RX10 yX10_hasRing yX10_hasRing ∈ zTbl := zTbl_of (List.mem_append_left _ (List.mem_of_getElem? (i := 91) (by decide +kernel))) rfl
theorem sl_X10_ringOf : Cond.selects RX10 yX10_ringOf yX10_ringOf ∈ zTbl := zTbl_of (List.mem_append_left _ (List.mem_of_getElem? (i := 92) (by decide +kernel))) rfl
theorem sl_X10_voteOf : Cond.selects RX10 yX10_voteOf yX10_voteOf ∈ zTbl := zTbl_of (List.mem_append_left _ (List.mem_of_getElem? (i := 93) (by decide +kernel))) rfl
theorem sl_X10_fatesBy : Cond.selects RX10 yX10_fatesBy yX10_fatesBy ∈ zTbl := zTbl_of (List.mem_append_left _ (List.mem_of_getElem? (i := 94) (by decide +kernel))) rfl
theorem mI_X9_init : zMI yX9_init prog_1_method_1_code 2 (Option.none : Option FieldType) 0 := ⟨kd_X9_init, ini_RX9, by decide +kernel, by decide +kernel⟩
theorem mI_X8_init : zMI yX8_init prog_10_method_1_code 1 (Option.none : Option FieldType) 0 := ⟨kd_X8_init, ini_RX8, by decide +kernel, by decide +kernel⟩
theorem mI_X0_init : zMI yX0_init prog_2_method_1_code 1 (Option.none : Option FieldType) 0 := ⟨kd_X0_init, ini_RX0, by decide +kernel, by decide +kernel⟩
theorem mI_X5_init : zMI yX5_init prog_7_method_1_code 1 (Option.none : Option FieldType) 0 := ⟨kd_X5_init, ini_RX5, by decide +kernel, by decide +kernel⟩
theorem mI_X5_beUsual : zMI yX5_beUsual prog_7_method_2_code 1 (Option.none : Option FieldType) 0 := ⟨kd_X5_beUsual, ini_RX5, by decide +kernel, by decide +kernel⟩
theorem mI_X5_add : zMI yX5_add prog_7_method_4_code 2 (Option.none : Option FieldType) 1 := ⟨kd_X5_add, ini_RX5, by decide +kernel, by decide +kernel⟩
theorem mI_X1_init : zMI yX1_init prog_3_method_1_code 1 (Option.none : Option FieldType) 0 := ⟨kd_X1_init, ini_RX1, by decide +kernel, by decide +kernel⟩
theorem mI_X7_init : zMI yX7_init prog_9_method_1_code 1 (Option.none : Option FieldType) 0 := ⟨kd_X7_init, ini_RX7, by decide +kernel, by decide +kernel⟩
theorem mI_X2_init : zMI yX2_init prog_4_method_1_code 3 (Option.none : Option FieldType) 2 := ⟨kd_X2_init, ini_RX2, by decide +kernel, by decide +kernel⟩
theorem mI_X4_init : zMI yX4_init prog_6_method_1_code 5 (Option.none : Option FieldType) 3 := ⟨kd_X4_init, ini_RX4, by decide +kernel, by decide +kernel⟩
theorem mI_X6_init : zMI yX6_init prog_8_method_1_code 4 (Option.none : Option FieldType) 3 := ⟨kd_X6_init, ini_RX6, by decide +kernel, by decide +kernel⟩
theorem mI_X3_init : zMI yX3_init prog_5_method_1_code 3 (Option.none : Option FieldType) 2 := ⟨kd_X3_init, ini_RX3, by decide +kernel, by decide +kernel⟩
theorem mI_X9_feed : zMI yX9_feed prog_1_method_2_code 6 (Option.some FieldType.int) 5 := ⟨kd_X9_feed, ini_RX9, by decide +kernel, by decide +kernel⟩
theorem mI_X8_put : zMI yX8_put prog_10_method_2_code 3 (Option.none : Option FieldType) 1 := ⟨kd_X8_put, ini_RX8, by decide +kernel, by decide +kernel⟩
theorem mI_X9_fault : zMI yX9_fault prog_1_method_6_code 1 (Option.some FieldType.int) 0 := ⟨kd_X9_fault, ini_RX9, by decide +kernel, by decide +kernel⟩
theorem mI_X9_next : zMI yX9_next prog_1_method_14_code 1 (Option.some FieldType.int) 0 := ⟨kd_X9_next, ini_RX9, by decide +kernel, by decide +kernel⟩
theorem mI_X4_nextTaken : zMI yX4_nextTaken prog_6_method_2_code 1 (Option.some FieldType.int) 0 := ⟨kd_X4_nextTaken, ini_RX4, by decide +kernel, by decide +kernel⟩
theorem mI_X7_copy : zMI yX7_copy prog_9_method_3_code 2 (Option.none : Option FieldType) 1 := ⟨kd_X7_copy, ini_RX7, by decide +kernel, by decide +kernel⟩
theorem mI_X2_pass : zMI yX2_pass prog_4_method_2_code 2 (Option.some FieldType.int) 1 := ⟨kd_X2_pass, ini_RX2, by decide +kernel, by decide +kernel⟩
theorem mI_X2_tellDeaths : zMI yX2_tellDeaths prog_4_method_3_code 3 (Option.none : Option FieldType) 1 := ⟨kd_X2_tellDeaths, ini_RX2, by decide +kernel, by decide +kernel⟩
theorem mI_X9_get : zMI yX9_get prog_1_method_59_code 2 (Option.some FieldType.int) 2 := ⟨kd_X9_get, ini_RX9, by decide +kernel, by decide +kernel⟩
theorem mI_X2_kill : zMI yX2_kill prog_4_method_5_code 6 (Option.some FieldType.int) 2 := ⟨kd_X2_kill, ini_RX2, by decide +kernel, by decide +kernel⟩
theorem mI_X7_isAlive : zMI yX7_isAlive prog_9_method_5_code 2 (Option.some FieldType.boolean) 1 := ⟨kd_X7_isAlive, ini_RX7, by decide +kernel, by decide +kernel⟩
theorem mI_X7_chairOf : zMI yX7_chairOf prog_9_method_8_code 3 (Option.some FieldType.int) 1 := ⟨kd_X7_chairOf, ini_RX7, by decide +kernel, by decide +kernel⟩
theorem mI_X9_set : zMI yX9_set prog_1_method_60_code 3 (Option.none : Option FieldType) 3 := ⟨kd_X9_set, ini_RX9, by decide +kernel, by decide +kernel⟩
theorem mI_X7_vacate : zMI yX7_vacate prog_9_method_10_code 3 (Option.none : Option FieldType) 1 := ⟨kd_X7_vacate, ini_RX7, by decide +kernel, by decide +kernel⟩
theorem mI_X2_agreeAcross : zMI yX2_agreeAcross prog_4_method_6_code 3 (Option.some FieldType.boolean) 2 := ⟨kd_X2_agreeAcross, ini_RX2, by decide +kernel, by decide +kernel⟩
theorem mI_X7_onChair : zMI yX7_onChair prog_9_method_6_code 2 (Option.some FieldType.int) 1 := ⟨kd_X7_onChair, ini_RX7, by decide +kernel, by decide +kernel⟩
theorem mI_X0_believeTheSame : zMI yX0_believeTheSame prog_2_method_17_code 3 (Option.some FieldType.boolean) 2 := ⟨kd_X0_believeTheSame, ini_RX0, by decide +kernel, by decide +kernel⟩
theorem mI_X7_leave : zMI yX7_leave prog_9_method_11_code 2 (Option.none : Option FieldType) 1 := ⟨kd_X7_leave, ini_RX7, by decide +kernel, by decide +kernel⟩
theorem mI_X2_settle : zMI yX2_settle prog_4_method_4_code 4 (Option.some FieldType.int) 1 := ⟨kd_X2_settle, ini_RX2, by decide +kernel, by decide +kernel⟩
theorem mI_X2_scoreAll : zMI yX2_scoreAll prog_4_method_8_code 3 (Option.none : Option FieldType) 1 := ⟨kd_X2_scoreAll, ini_RX2, by decide +kernel, by decide +kernel⟩
theorem mI_X7_isWaiting : zMI yX7_isWaiting prog_9_method_4_code 2 (Option.some FieldType.boolean) 1 := ⟨kd_X7_isWaiting, ini_RX7, by decide +kernel, by decide +kernel⟩
theorem mI_X2_scoreOf : zMI yX2_scoreOf prog_4_method_7_code 4 (Option.some FieldType.int) 2 := ⟨kd_X2_scoreOf, ini_RX2, by decide +kernel, by decide +kernel⟩
theorem mI_X7_last : zMI yX7_last prog_9_method_7_code 1 (Option.some FieldType.int) 0 := ⟨kd_X7_last, ini_RX7, by decide +kernel, by decide +kernel⟩
theorem mI_X0_differing : zMI yX0_differing prog_2_method_16_code 4 (Option.some FieldType.int) 2 := ⟨kd_X0_differing, ini_RX0, by decide +kernel, by decide +kernel⟩
theorem mI_J6_bitCount_0f7a4 : zMI yJ6_bitCount_0f7a4 prog_18_method_49_code 1 (Option.some FieldType.int) 1 := ⟨kd_J6_bitCount_0f7a4, ini_RJ6, by decide +kernel, by decide +kernel⟩
theorem mI_X5_setFact : zMI yX5_setFact prog_7_method_12_code 3 (Option.none : Option FieldType) 2 := ⟨kd_X5_setFact, ini_RX5, by decide +kernel, by decide +kernel⟩
theorem mI_X0_ageIn : zMI yX0_ageIn prog_2_method_15_code 3 (Option.some FieldType.int) 2 := ⟨kd_X0_ageIn, ini_RX0, by decide +kernel, by decide +kernel⟩
theorem mI_X5_value : zMI yX5_value prog_7_method_13_code 4 (Option.some FieldType.int) 0 := ⟨kd_X5_value, ini_RX5, by decide +kernel, by decide +kernel⟩
theorem mI_X5_join : zMI yX5_join prog_7_method_14_code 3 (Option.some FieldType.int) 3 := ⟨kd_X5_join, ini_RX5, by decide +kernel, by decide +kernel⟩
theorem mI_X0_praiseTold : zMI yX0_praiseTold prog_2_method_18_code 5 (Option.some FieldType.int) 2 := ⟨kd_X0_praiseTold, ini_RX0, by decide +kernel, by decide +kernel⟩
theorem mI_X7_praiseAside : zMI yX7_praiseAside prog_9_method_13_code 2 (Option.some FieldType.int) 1 := ⟨kd_X7_praiseAside, ini_RX7, by decide +kernel, by decide +kernel⟩
theorem mI_X2_choose : zMI yX2_choose prog_4_method_9_code 2 (Option.some FieldType.int) 1 := ⟨kd_X2_choose, ini_RX2, by decide +kernel, by decide +kernel⟩
theorem mI_X2_eldest : zMI yX2_eldest prog_4_method_10_code 4 (Option.some FieldType.int) 1 := ⟨kd_X2_eldest, ini_RX2, by decide +kernel, by decide +kernel⟩
theorem mI_X2_greatest : zMI yX2_greatest prog_4_method_11_code 6 (Option.some FieldType.int) 1 := ⟨kd_X2_greatest, ini_RX2, by decide +kernel, by decide +kernel⟩
theorem mI_X7_sitDown : zMI yX7_sitDown prog_9_method_9_code 3 (Option.none : Option FieldType) 2 := ⟨kd_X7_sitDown, ini_RX7, by decide +kernel, by decide +kernel⟩
theorem mI_X9_taken : zMI yX9_taken prog_1_method_17_code 3 (Option.some FieldType.int) 1 := ⟨kd_X9_taken, ini_RX9, by decide +kernel, by decide +kernel⟩
theorem mI_X9_breaks : zMI yX9_breaks prog_1_method_23_code 1 (Option.some FieldType.int) 0 := ⟨kd_X9_breaks, ini_RX9, by decide +kernel, by decide +kernel⟩
theorem mI_X4_yearOfEntry : zMI yX4_yearOfEntry prog_6_method_4_code 3 (Option.some FieldType.int) 1 := ⟨kd_X4_yearOfEntry, ini_RX4, by decide +kernel, by decide +kernel⟩
theorem mI_X9_right : zMI yX9_right prog_1_method_28_code 1 (Option.some FieldType.int) 0 := ⟨kd_X9_right, ini_RX9, by decide +kernel, by decide +kernel⟩
theorem mI_X6_rightLines : zMI yX6_rightLines prog_8_method_2_code 3 (Option.some FieldType.int) 0 := ⟨kd_X6_rightLines, ini_RX6, by decide +kernel, by decide +kernel⟩
theorem mI_X1_lastYear : zMI yX1_lastYear prog_3_method_5_code 3 (Option.some FieldType.int) 0 := ⟨kd_X1_lastYear, ini_RX1, by decide +kernel, by decide +kernel⟩
theorem mI_J9_max_7cf53 : zMI yJ9_max_7cf53 prog_19_method_65_code 2 (Option.some FieldType.int) 2 := ⟨kd_J9_max_7cf53, ini_RJ9, by decide +kernel, by decide +kernel⟩
theorem mI_X7_open : zMI yX7_open prog_9_method_2_code 3 (Option.none : Option FieldType) 1 := ⟨kd_X7_open, ini_RX7, by decide +kernel, by decide +kernel⟩
theorem mI_X9_middle : zMI yX9_middle prog_1_method_33_code 1 (Option.some FieldType.int) 0 := ⟨kd_X9_middle, ini_RX9, by decide +kernel, by decide +kernel⟩
theorem mI_X3_mostMiddling : zMI yX3_mostMiddling prog_5_method_13_code 6 (Option.some FieldType.int) 0 := ⟨kd_X3_mostMiddling, ini_RX3, by decide +kernel, by decide +kernel⟩
theorem mI_X9_lead : zMI yX9_lead prog_1_method_38_code 1 (Option.some FieldType.int) 0 := ⟨kd_X9_lead, ini_RX9, by decide +kernel, by decide +kernel⟩
theorem mI_X4_leadOfGreatest : zMI yX4_leadOfGreatest prog_6_method_9_code 6 (Option.some FieldType.int) 0 := ⟨kd_X4_leadOfGreatest, ini_RX4, by decide +kernel, by decide +kernel⟩
theorem mI_X9_seams : zMI yX9_seams prog_1_method_42_code 1 (Option.some FieldType.int) 0 := ⟨kd_X9_seams, ini_RX9, by decide +kernel, by decide +kernel⟩
theorem mI_X3_seamChairs : zMI yX3_seamChairs prog_5_method_18_code 3 (Option.some FieldType.int) 0 := ⟨kd_X3_seamChairs, ini_RX3, by decide +kernel, by decide +kernel⟩
theorem mI_X9_ringed : zMI yX9_ringed prog_1_method_43_code 1 (Option.some FieldType.int) 0 := ⟨kd_X9_ringed, ini_RX9, by decide +kernel, by decide +kernel⟩
theorem mI_X3_ringedMen : zMI yX3_ringedMen prog_5_method_5_code 3 (Option.some FieldType.int) 0 := ⟨kd_X3_ringedMen, ini_RX3, by decide +kernel, by decide +kernel⟩
theorem mI_X3_comesAgain : zMI yX3_comesAgain prog_5_method_6_code 4 (Option.some FieldType.boolean) 1 := ⟨kd_X3_comesAgain, ini_RX3, by decide +kernel, by decide +kernel⟩
theorem mI_X3_worstEnemy : zMI yX3_worstEnemy prog_5_method_3_code 6 (Option.some FieldType.int) 1 := ⟨kd_X3_worstEnemy, ini_RX3, by decide +kernel, by decide +kernel⟩
theorem mI_X9_kin : zMI yX9_kin prog_1_method_46_code 1 (Option.some FieldType.int) 0 := ⟨kd_X9_kin, ini_RX9, by decide +kernel, by decide +kernel⟩
theorem mI_X3_unlikeRows : zMI yX3_unlikeRows prog_5_method_20_code 5 (Option.some FieldType.int) 0 := ⟨kd_X3_unlikeRows, ini_RX3, by decide +kernel, by decide +kernel⟩
theorem mI_X9_image : zMI yX9_image prog_1_method_50_code 1 (Option.some FieldType.int) 0 := ⟨kd_X9_image, ini_RX9, by decide +kernel, by decide +kernel⟩
theorem mI_X9_restore : zMI yX9_restore prog_1_method_51_code 1 (Option.some FieldType.int) 0 := ⟨kd_X9_restore, ini_RX9, by decide +kernel, by decide +kernel⟩
theorem mI_X9_status : zMI yX9_status prog_1_method_52_code 2 (Option.some FieldType.int) 1 := ⟨kd_X9_status, ini_RX9, by decide +kernel, by decide +kernel⟩
theorem mI_X9_count : zMI yX9_count prog_1_method_53_code 2 (Option.some FieldType.int) 1 := ⟨kd_X9_count, ini_RX9, by decide +kernel, by decide +kernel⟩
theorem mI_X9_academy : zMI yX9_academy prog_1_method_3_code 2 (Option.some FieldType.int) 1 := ⟨kd_X9_academy, ini_RX9, by decide +kernel, by decide +kernel⟩
theorem mI_X9_openText : zMI yX9_openText prog_1_method_54_code 3 (Option.none : Option FieldType) 2 := ⟨kd_X9_openText, ini_RX9, by decide +kernel, by decide +kernel⟩
theorem mI_J9_min_7cf53 : zMI yJ9_min_7cf53 prog_19_method_69_code 2 (Option.some FieldType.int) 2 := ⟨kd_J9_min_7cf53, ini_RJ9, by decide +kernel, by decide +kernel⟩
theorem mI_X9_within : zMI yX9_within prog_1_method_58_code 3 (Option.some FieldType.boolean) 3 := ⟨kd_X9_within, ini_RX9, by decide +kernel, by decide +kernel⟩
theorem mI_X9_need : zMI yX9_need prog_1_method_57_code 2 (Option.none : Option FieldType) 1 := ⟨kd_X9_need, ini_RX9, by decide +kernel, by decide +kernel⟩
theorem mI_X8_open : zMI yX8_open prog_10_method_3_code 2 (Option.none : Option FieldType) 1 := ⟨kd_X8_open, ini_RX8, by decide +kernel, by decide +kernel⟩
theorem mI_X0_read : zMI yX0_read prog_2_method_3_code 3 (Option.none : Option FieldType) 1 := ⟨kd_X0_read, ini_RX0, by decide +kernel, by decide +kernel⟩
theorem mI_X8_look : zMI yX8_look prog_10_method_5_code 1 (Option.some FieldType.int) 0 := ⟨kd_X8_look, ini_RX8, by decide +kernel, by decide +kernel⟩
theorem mI_X0_readClause : zMI yX0_readClause prog_2_method_4_code 6 (Option.none : Option FieldType) 2 := ⟨kd_X0_readClause, ini_RX0, by decide +kernel, by decide +kernel⟩
theorem mI_X8_lookAt : zMI yX8_lookAt prog_10_method_6_code 1 (Option.some FieldType.int) 0 := ⟨kd_X8_lookAt, ini_RX8, by decide +kernel, by decide +kernel⟩
theorem mI_X0_readKind : zMI yX0_readKind prog_2_method_5_code 1 (Option.some FieldType.int) 1 := ⟨kd_X0_readKind, ini_RX0, by decide +kernel, by decide +kernel⟩
theorem mI_X8_takesWord : zMI yX8_takesWord prog_10_method_12_code 4 (Option.some FieldType.boolean) 1 := ⟨kd_X8_takesWord, ini_RX8, by decide +kernel, by decide +kernel⟩
theorem mI_X8_byteAt : zMI yX8_byteAt prog_10_method_14_code 2 (Option.some FieldType.int) 1 := ⟨kd_X8_byteAt, ini_RX8, by decide +kernel, by decide +kernel⟩
theorem mI_X8_isLetter : zMI yX8_isLetter prog_10_method_15_code 1 (Option.some FieldType.boolean) 1 := ⟨kd_X8_isLetter, ini_RX8, by decide +kernel, by decide +kernel⟩
theorem mI_J0_length_8abf5 : zMI yJ0_length_8abf5 prog_21_method_54_code 1 (Option.some FieldType.int) 0 := ⟨kd_J0_length_8abf5, ini_RJ0, by decide +kernel, by decide +kernel⟩
theorem mI_J0_coder_7d493 : zMI yJ0_coder_7d493 prog_21_method_152_code 1 (Option.some FieldType.byte) 0 := ⟨kd_J0_coder_7d493, ini_RJ0, by decide +kernel, by decide +kernel⟩
theorem mI_J0_charAt_5068e : zMI yJ0_charAt_5068e prog_21_method_56_code 2 (Option.some FieldType.char) 1 := ⟨kd_J0_charAt_5068e, ini_RJ0, by decide +kernel, by decide +kernel⟩
theorem mI_J0_isLatin1_aae02 : zMI yJ0_isLatin1_aae02 prog_21_method_154_code 1 (Option.some FieldType.boolean) 0 := ⟨kd_J0_isLatin1_aae02, ini_RJ0, by decide +kernel, by decide +kernel⟩
theorem mI_J1_charAt_3b067 : zMI yJ1_charAt_3b067 prog_22_method_2_code 2 (Option.some FieldType.char) 2 := ⟨kd_J1_charAt_3b067, ini_RJ1, by decide +kernel, by decide +kernel⟩
theorem mI_J0_checkIndex_df160 : zMI yJ0_checkIndex_df160 prog_21_method_155_code 2 (Option.none : Option FieldType) 2 := ⟨kd_J0_checkIndex_df160, ini_RJ0, by decide +kernel, by decide +kernel⟩
theorem mI_J3_checkIndex_8e157 : zMI yJ3_checkIndex_8e157 prog_29_method_11_code 3 (Option.some FieldType.int) 3 := ⟨kd_J3_checkIndex_8e157, ini_RJ3, by decide +kernel, by decide +kernel⟩
theorem mI_J2_charAt_3b067 : zMI yJ2_charAt_3b067 prog_23_method_83_code 2 (Option.some FieldType.char) 2 := ⟨kd_J2_charAt_3b067, ini_RJ2, by decide +kernel, by decide +kernel⟩
theorem mI_J2_checkIndex_2214a : zMI yJ2_checkIndex_2214a prog_23_method_91_code 2 (Option.none : Option FieldType) 2 := ⟨kd_J2_checkIndex_2214a, ini_RJ2, by decide +kernel, by decide +kernel⟩
theorem mI_J2_length_9d52b : zMI yJ2_length_9d52b prog_23_method_6_code 1 (Option.some FieldType.int) 1 := ⟨kd_J2_length_9d52b, ini_RJ2, by decide +kernel, by decide +kernel⟩
theorem mI_J2_getChar_3b067 : zMI yJ2_getChar_3b067 prog_23_method_5_code 2 (Option.some FieldType.char) 2 := ⟨kd_J2_getChar_3b067, ini_RJ2, by decide +kernel, by decide +kernel⟩
theorem mI_X8_fail : zMI yX8_fail prog_10_method_4_code 3 (Option.none : Option FieldType) 2 := ⟨kd_X8_fail, ini_RX8, by decide +kernel, by decide +kernel⟩
theorem mI_X0_faultOf : zMI yX0_faultOf prog_2_method_6_code 2 (Option.some FieldType.int) 1 := ⟨kd_X0_faultOf, ini_RX0, by decide +kernel, by decide +kernel⟩
theorem mI_X0_readQuestion : zMI yX0_readQuestion prog_2_method_7_code 2 (Option.none : Option FieldType) 1 := ⟨kd_X0_readQuestion, ini_RX0, by decide +kernel, by decide +kernel⟩
theorem mI_X8_number : zMI yX8_number prog_10_method_13_code 6 (Option.some FieldType.int) 2 := ⟨kd_X8_number, ini_RX8, by decide +kernel, by decide +kernel⟩
theorem mI_X8_looksAtDigit : zMI yX8_looksAtDigit prog_10_method_8_code 1 (Option.some FieldType.boolean) 0 := ⟨kd_X8_looksAtDigit, ini_RX8, by decide +kernel, by decide +kernel⟩
theorem mI_X8_isDigit : zMI yX8_isDigit prog_10_method_16_code 1 (Option.some FieldType.boolean) 1 := ⟨kd_X8_isDigit, ini_RX8, by decide +kernel, by decide +kernel⟩
theorem mI_X8_misfit : zMI yX8_misfit prog_10_method_9_code 1 (Option.none : Option FieldType) 0 := ⟨kd_X8_misfit, ini_RX8, by decide +kernel, by decide +kernel⟩
theorem mI_X0_readMan : zMI yX0_readMan prog_2_method_8_code 4 (Option.none : Option FieldType) 1 := ⟨kd_X0_readMan, ini_RX0, by decide +kernel, by decide +kernel⟩
theorem mI_X0_readSeat : zMI yX0_readSeat prog_2_method_9_code 5 (Option.none : Option FieldType) 1 := ⟨kd_X0_readSeat, ini_RX0, by decide +kernel, by decide +kernel⟩
theorem mI_X0_readKnownMan : zMI yX0_readKnownMan prog_2_method_13_code 2 (Option.some FieldType.int) 1 := ⟨kd_X0_readKnownMan, ini_RX0, by decide +kernel, by decide +kernel⟩
theorem mI_X0_readChairs : zMI yX0_readChairs prog_2_method_10_code 2 (Option.none : Option FieldType) 1 := ⟨kd_X0_readChairs, ini_RX0, by decide +kernel, by decide +kernel⟩
theorem mI_X0_readDeath : zMI yX0_readDeath prog_2_method_11_code 2 (Option.none : Option FieldType) 1 := ⟨kd_X0_readDeath, ini_RX0, by decide +kernel, by decide +kernel⟩
theorem mI_X0_readPraise : zMI yX0_readPraise prog_2_method_12_code 2 (Option.none : Option FieldType) 1 := ⟨kd_X0_readPraise, ini_RX0, by decide +kernel, by decide +kernel⟩
theorem mI_X8_sign : zMI yX8_sign prog_10_method_11_code 2 (Option.none : Option FieldType) 1 := ⟨kd_X8_sign, ini_RX8, by decide +kernel, by decide +kernel⟩
theorem mI_X0_copy : zMI yX0_copy prog_2_method_2_code 2 (Option.none : Option FieldType) 1 := ⟨kd_X0_copy, ini_RX0, by decide +kernel, by decide +kernel⟩
theorem mI_X9_law : zMI yX9_law prog_1_method_4_code 2 (Option.some FieldType.int) 1 := ⟨kd_X9_law, ini_RX9, by decide +kernel, by decide +kernel⟩
theorem mI_X5_read : zMI yX5_read prog_7_method_5_code 2 (Option.none : Option FieldType) 1 := ⟨kd_X5_read, ini_RX5, by decide +kernel, by decide +kernel⟩
theorem mI_X5_readSum : zMI yX5_readSum prog_7_method_6_code 4 (Option.none : Option FieldType) 2 := ⟨kd_X5_readSum, ini_RX5, by decide +kernel, by decide +kernel⟩
theorem mI_X5_readProduct : zMI yX5_readProduct prog_7_method_7_code 4 (Option.none : Option FieldType) 2 := ⟨kd_X5_readProduct, ini_RX5, by decide +kernel, by decide +kernel⟩
theorem mI_X5_readUnit : zMI yX5_readUnit prog_7_method_8_code 4 (Option.none : Option FieldType) 2 := ⟨kd_X5_readUnit, ini_RX5, by decide +kernel, by decide +kernel⟩
theorem mI_X8_takesSign : zMI yX8_takesSign prog_10_method_10_code 2 (Option.some FieldType.boolean) 1 := ⟨kd_X8_takesSign, ini_RX8, by decide +kernel, by decide +kernel⟩
theorem mI_X5_readBraced : zMI yX5_readBraced prog_7_method_9_code 4 (Option.none : Option FieldType) 3 := ⟨kd_X5_readBraced, ini_RX5, by decide +kernel, by decide +kernel⟩
theorem mI_X5_readTwo : zMI yX5_readTwo prog_7_method_10_code 4 (Option.none : Option FieldType) 3 := ⟨kd_X5_readTwo, ini_RX5, by decide +kernel, by decide +kernel⟩
theorem mI_X5_readName : zMI yX5_readName prog_7_method_11_code 2 (Option.none : Option FieldType) 1 := ⟨kd_X5_readName, ini_RX5, by decide +kernel, by decide +kernel⟩
theorem mI_X5_copy : zMI yX5_copy prog_7_method_3_code 2 (Option.none : Option FieldType) 1 := ⟨kd_X5_copy, ini_RX5, by decide +kernel, by decide +kernel⟩
theorem mI_X9_book : zMI yX9_book prog_1_method_5_code 2 (Option.some FieldType.int) 1 := ⟨kd_X9_book, ini_RX9, by decide +kernel, by decide +kernel⟩
theorem mI_X1_read : zMI yX1_read prog_3_method_3_code 4 (Option.none : Option FieldType) 2 := ⟨kd_X1_read, ini_RX1, by decide +kernel, by decide +kernel⟩
theorem mI_X1_readLine : zMI yX1_readLine prog_3_method_4_code 6 (Option.none : Option FieldType) 2 := ⟨kd_X1_readLine, ini_RX1, by decide +kernel, by decide +kernel⟩
theorem mI_X8_looksAtLetter : zMI yX8_looksAtLetter prog_10_method_7_code 1 (Option.some FieldType.boolean) 0 := ⟨kd_X8_looksAtLetter, ini_RX8, by decide +kernel, by decide +kernel⟩
theorem mI_X1_copy : zMI yX1_copy prog_3_method_2_code 2 (Option.none : Option FieldType) 1 := ⟨kd_X1_copy, ini_RX1, by decide +kernel, by decide +kernel⟩
theorem mI_X9_told : zMI yX9_told prog_1_method_7_code 2 (Option.some FieldType.int) 1 := ⟨kd_X9_told, ini_RX9, by decide +kernel, by decide +kernel⟩
theorem mI_X3_waitingMen : zMI yX3_waitingMen prog_5_method_2_code 3 (Option.some FieldType.int) 0 := ⟨kd_X3_waitingMen, ini_RX3, by decide +kernel, by decide +kernel⟩
theorem mI_X9_man : zMI yX9_man prog_1_method_8_code 3 (Option.some FieldType.int) 2 := ⟨kd_X9_man, ini_RX9, by decide +kernel, by decide +kernel⟩
theorem mI_X9_needMan : zMI yX9_needMan prog_1_method_55_code 2 (Option.none : Option FieldType) 1 := ⟨kd_X9_needMan, ini_RX9, by decide +kernel, by decide +kernel⟩
theorem mI_X9_sides : zMI yX9_sides prog_1_method_9_code 2 (Option.some FieldType.int) 1 := ⟨kd_X9_sides, ini_RX9, by decide +kernel, by decide +kernel⟩
theorem mI_X9_needQuestion : zMI yX9_needQuestion prog_1_method_56_code 2 (Option.none : Option FieldType) 1 := ⟨kd_X9_needQuestion, ini_RX9, by decide +kernel, by decide +kernel⟩
theorem mI_X9_believes : zMI yX9_believes prog_1_method_10_code 3 (Option.some FieldType.int) 2 := ⟨kd_X9_believes, ini_RX9, by decide +kernel, by decide +kernel⟩
theorem mI_X0_sideOf : zMI yX0_sideOf prog_2_method_14_code 3 (Option.some FieldType.int) 2 := ⟨kd_X0_sideOf, ini_RX0, by decide +kernel, by decide +kernel⟩
theorem mI_X9_chair : zMI yX9_chair prog_1_method_11_code 2 (Option.some FieldType.int) 1 := ⟨kd_X9_chair, ini_RX9, by decide +kernel, by decide +kernel⟩
theorem mI_X9_differs : zMI yX9_differs prog_1_method_12_code 3 (Option.some FieldType.int) 2 := ⟨kd_X9_differs, ini_RX9, by decide +kernel, by decide +kernel⟩
theorem mI_X9_score : zMI yX9_score prog_1_method_13_code 2 (Option.some FieldType.int) 1 := ⟨kd_X9_score, ini_RX9, by decide +kernel, by decide +kernel⟩
theorem mI_X9_years : zMI yX9_years prog_1_method_15_code 3 (Option.some FieldType.int) 1 := ⟨kd_X9_years, ini_RX9, by decide +kernel, by decide +kernel⟩
theorem mI_X9_undo : zMI yX9_undo prog_1_method_16_code 5 (Option.some FieldType.int) 1 := ⟨kd_X9_undo, ini_RX9, by decide +kernel, by decide +kernel⟩
theorem mI_X9_sums : zMI yX9_sums prog_1_method_18_code 2 (Option.some FieldType.int) 1 := ⟨kd_X9_sums, ini_RX9, by decide +kernel, by decide +kernel⟩
theorem mI_X9_die : zMI yX9_die prog_1_method_19_code 3 (Option.some FieldType.int) 1 := ⟨kd_X9_die, ini_RX9, by decide +kernel, by decide +kernel⟩
theorem mI_X9_praise : zMI yX9_praise prog_1_method_20_code 3 (Option.some FieldType.int) 2 := ⟨kd_X9_praise, ini_RX9, by decide +kernel, by decide +kernel⟩
theorem mI_X7_praiseMore : zMI yX7_praiseMore prog_9_method_12_code 4 (Option.none : Option FieldType) 2 := ⟨kd_X7_praiseMore, ini_RX7, by decide +kernel, by decide +kernel⟩
theorem mI_X9_ahead : zMI yX9_ahead prog_1_method_21_code 3 (Option.some FieldType.int) 2 := ⟨kd_X9_ahead, ini_RX9, by decide +kernel, by decide +kernel⟩
theorem mI_X4_behind : zMI yX4_behind prog_6_method_3_code 4 (Option.some FieldType.int) 2 := ⟨kd_X4_behind, ini_RX4, by decide +kernel, by decide +kernel⟩
theorem mI_X9_when : zMI yX9_when prog_1_method_22_code 2 (Option.some FieldType.int) 1 := ⟨kd_X9_when, ini_RX9, by decide +kernel, by decide +kernel⟩
theorem mI_X9_praises : zMI yX9_praises prog_1_method_24_code 5 (Option.some FieldType.int) 4 := ⟨kd_X9_praises, ini_RX9, by decide +kernel, by decide +kernel⟩
theorem mI_X4_waysToPraise : zMI yX4_waysToPraise prog_6_method_16_code 8 (Option.some FieldType.int) 4 := ⟨kd_X4_waysToPraise, ini_RX4, by decide +kernel, by decide +kernel⟩
theorem mI_X4_isWorthTrying : zMI yX4_isWorthTrying prog_6_method_17_code 3 (Option.some FieldType.boolean) 1 := ⟨kd_X4_isWorthTrying, ini_RX4, by decide +kernel, by decide +kernel⟩
theorem mI_X4_praisedTill : zMI yX4_praisedTill prog_6_method_18_code 4 (Option.some FieldType.int) 1 := ⟨kd_X4_praisedTill, ini_RX4, by decide +kernel, by decide +kernel⟩
theorem mI_X4_tryChoice : zMI yX4_tryChoice prog_6_method_19_code 6 (Option.some FieldType.int) 4 := ⟨kd_X4_tryChoice, ini_RX4, by decide +kernel, by decide +kernel⟩
theorem mI_X4_wayTill : zMI yX4_wayTill prog_6_method_20_code 5 (Option.some FieldType.int) 2 := ⟨kd_X4_wayTill, ini_RX4, by decide +kernel, by decide +kernel⟩
theorem mI_X9_beliefs : zMI yX9_beliefs prog_1_method_25_code 3 (Option.some FieldType.int) 2 := ⟨kd_X9_beliefs, ini_RX9, by decide +kernel, by decide +kernel⟩
theorem mI_X6_tryBeliefs : zMI yX6_tryBeliefs prog_8_method_5_code 5 (Option.none : Option FieldType) 1 := ⟨kd_X6_tryBeliefs, ini_RX6, by decide +kernel, by decide +kernel⟩
theorem mI_X6_holds : zMI yX6_holds prog_8_method_3_code 5 (Option.some FieldType.boolean) 2 := ⟨kd_X6_holds, ini_RX6, by decide +kernel, by decide +kernel⟩
theorem mI_X1_allows : zMI yX1_allows prog_3_method_6_code 4 (Option.some FieldType.boolean) 2 := ⟨kd_X1_allows, ini_RX1, by decide +kernel, by decide +kernel⟩
theorem mI_X6_noteWay : zMI yX6_noteWay prog_8_method_6_code 5 (Option.none : Option FieldType) 1 := ⟨kd_X6_noteWay, ini_RX6, by decide +kernel, by decide +kernel⟩
theorem mI_X6_codeBehind : zMI yX6_codeBehind prog_8_method_7_code 5 (Option.some FieldType.int) 1 := ⟨kd_X6_codeBehind, ini_RX6, by decide +kernel, by decide +kernel⟩
theorem mI_X9_sure : zMI yX9_sure prog_1_method_26_code 3 (Option.some FieldType.int) 2 := ⟨kd_X9_sure, ini_RX9, by decide +kernel, by decide +kernel⟩
theorem mI_X6_onlySide : zMI yX6_onlySide prog_8_method_8_code 2 (Option.some FieldType.int) 1 := ⟨kd_X6_onlySide, ini_RX6, by decide +kernel, by decide +kernel⟩
theorem mI_X9_dead : zMI yX9_dead prog_1_method_27_code 2 (Option.some FieldType.int) 1 := ⟨kd_X9_dead, ini_RX9, by decide +kernel, by decide +kernel⟩
theorem mI_X6_deathsThatFit : zMI yX6_deathsThatFit prog_8_method_4_code 4 (Option.some FieldType.int) 1 := ⟨kd_X6_deathsThatFit, ini_RX6, by decide +kernel, by decide +kernel⟩
theorem mI_X9_enemy : zMI yX9_enemy prog_1_method_29_code 2 (Option.some FieldType.int) 1 := ⟨kd_X9_enemy, ini_RX9, by decide +kernel, by decide +kernel⟩
theorem mI_X9_ring : zMI yX9_ring prog_1_method_30_code 3 (Option.some FieldType.int) 2 := ⟨kd_X9_ring, ini_RX9, by decide +kernel, by decide +kernel⟩
theorem mI_X3_ringFrom : zMI yX3_ringFrom prog_5_method_4_code 8 (Option.some FieldType.int) 2 := ⟨kd_X3_ringFrom, ini_RX3, by decide +kernel, by decide +kernel⟩
theorem mI_X9_vote : zMI yX9_vote prog_1_method_31_code 4 (Option.some FieldType.int) 3 := ⟨kd_X9_vote, ini_RX9, by decide +kernel, by decide +kernel⟩
theorem mI_X3_voteBy : zMI yX3_voteBy prog_5_method_11_code 5 (Option.some FieldType.int) 3 := ⟨kd_X3_voteBy, ini_RX3, by decide +kernel, by decide +kernel⟩
theorem mI_X3_clearTally : zMI yX3_clearTally prog_5_method_8_code 2 (Option.none : Option FieldType) 0 := ⟨kd_X3_clearTally, ini_RX3, by decide +kernel, by decide +kernel⟩
theorem mI_X3_addToTally : zMI yX3_addToTally prog_5_method_9_code 4 (Option.none : Option FieldType) 2 := ⟨kd_X3_addToTally, ini_RX3, by decide +kernel, by decide +kernel⟩
theorem mI_X3_sideOnChair : zMI yX3_sideOnChair prog_5_method_7_code 3 (Option.some FieldType.int) 2 := ⟨kd_X3_sideOnChair, ini_RX3, by decide +kernel, by decide +kernel⟩
theorem mI_X3_leadingSide : zMI yX3_leadingSide prog_5_method_10_code 4 (Option.some FieldType.int) 0 := ⟨kd_X3_leadingSide, ini_RX3, by decide +kernel, by decide +kernel⟩
theorem mI_X9_skip : zMI yX9_skip prog_1_method_32_code 2 (Option.some FieldType.int) 1 := ⟨kd_X9_skip, ini_RX9, by decide +kernel, by decide +kernel⟩
theorem mI_X3_longestSkip : zMI yX3_longestSkip prog_5_method_12_code 7 (Option.some FieldType.int) 1 := ⟨kd_X3_longestSkip, ini_RX3, by decide +kernel, by decide +kernel⟩
theorem mI_X9_flip : zMI yX9_flip prog_1_method_34_code 2 (Option.some FieldType.int) 1 := ⟨kd_X9_flip, ini_RX9, by decide +kernel, by decide +kernel⟩
theorem mI_X3_fewestToFlip : zMI yX3_fewestToFlip prog_5_method_14_code 6 (Option.some FieldType.int) 1 := ⟨kd_X3_fewestToFlip, ini_RX3, by decide +kernel, by decide +kernel⟩
theorem mI_X3_leavingFor : zMI yX3_leavingFor prog_5_method_15_code 5 (Option.some FieldType.int) 1 := ⟨kd_X3_leavingFor, ini_RX3, by decide +kernel, by decide +kernel⟩
theorem mI_X9_patrons : zMI yX9_patrons prog_1_method_35_code 5 (Option.some FieldType.int) 4 := ⟨kd_X9_patrons, ini_RX9, by decide +kernel, by decide +kernel⟩
theorem mI_X4_quietPairs : zMI yX4_quietPairs prog_6_method_13_code 9 (Option.some FieldType.int) 4 := ⟨kd_X4_quietPairs, ini_RX4, by decide +kernel, by decide +kernel⟩
theorem mI_X4_scoreThisYear : zMI yX4_scoreThisYear prog_6_method_10_code 1 (Option.none : Option FieldType) 0 := ⟨kd_X4_scoreThisYear, ini_RX4, by decide +kernel, by decide +kernel⟩
theorem mI_X4_raise : zMI yX4_raise prog_6_method_11_code 3 (Option.none : Option FieldType) 2 := ⟨kd_X4_raise, ini_RX4, by decide +kernel, by decide +kernel⟩
theorem mI_X4_isOpen : zMI yX4_isOpen prog_6_method_14_code 2 (Option.some FieldType.boolean) 1 := ⟨kd_X4_isOpen, ini_RX4, by decide +kernel, by decide +kernel⟩
theorem mI_X4_isQuiet : zMI yX4_isQuiet prog_6_method_15_code 7 (Option.some FieldType.boolean) 4 := ⟨kd_X4_isQuiet, ini_RX4, by decide +kernel, by decide +kernel⟩
theorem mI_X9_allies : zMI yX9_allies prog_1_method_36_code 2 (Option.some FieldType.int) 1 := ⟨kd_X9_allies, ini_RX9, by decide +kernel, by decide +kernel⟩
theorem mI_X3_alliesOf : zMI yX3_alliesOf prog_5_method_17_code 4 (Option.some FieldType.int) 1 := ⟨kd_X3_alliesOf, ini_RX3, by decide +kernel, by decide +kernel⟩
theorem mI_X9_rank : zMI yX9_rank prog_1_method_37_code 2 (Option.some FieldType.int) 1 := ⟨kd_X9_rank, ini_RX9, by decide +kernel, by decide +kernel⟩
theorem mI_X4_rankOf : zMI yX4_rankOf prog_6_method_8_code 5 (Option.some FieldType.int) 1 := ⟨kd_X4_rankOf, ini_RX4, by decide +kernel, by decide +kernel⟩
theorem mI_X9_wants : zMI yX9_wants prog_1_method_39_code 2 (Option.some FieldType.int) 1 := ⟨kd_X9_wants, ini_RX9, by decide +kernel, by decide +kernel⟩
theorem mI_X4_praiseWanted : zMI yX4_praiseWanted prog_6_method_12_code 3 (Option.some FieldType.int) 1 := ⟨kd_X4_praiseWanted, ini_RX4, by decide +kernel, by decide +kernel⟩
theorem mI_X9_stays : zMI yX9_stays prog_1_method_40_code 2 (Option.some FieldType.int) 1 := ⟨kd_X9_stays, ini_RX9, by decide +kernel, by decide +kernel⟩
theorem mI_X4_yearsLeft : zMI yX4_yearsLeft prog_6_method_5_code 3 (Option.some FieldType.int) 1 := ⟨kd_X4_yearsLeft, ini_RX4, by decide +kernel, by decide +kernel⟩
theorem mI_X9_doomed : zMI yX9_doomed prog_1_method_41_code 2 (Option.some FieldType.int) 1 := ⟨kd_X9_doomed, ini_RX9, by decide +kernel, by decide +kernel⟩
theorem mI_X4_leavingWith : zMI yX4_leavingWith prog_6_method_7_code 4 (Option.some FieldType.int) 1 := ⟨kd_X4_leavingWith, ini_RX4, by decide +kernel, by decide +kernel⟩
theorem mI_X9_pair : zMI yX9_pair prog_1_method_44_code 2 (Option.some FieldType.int) 1 := ⟨kd_X9_pair, ini_RX9, by decide +kernel, by decide +kernel⟩
theorem mI_X3_mostUnlike : zMI yX3_mostUnlike prog_5_method_19_code 8 (Option.some FieldType.int) 1 := ⟨kd_X3_mostUnlike, ini_RX3, by decide +kernel, by decide +kernel⟩
theorem mI_X9_quorum : zMI yX9_quorum prog_1_method_45_code 2 (Option.some FieldType.int) 1 := ⟨kd_X9_quorum, ini_RX9, by decide +kernel, by decide +kernel⟩
theorem mI_X3_quorumOf : zMI yX3_quorumOf prog_5_method_16_code 6 (Option.some FieldType.int) 1 := ⟨kd_X3_quorumOf, ini_RX3, by decide +kernel, by decide +kernel⟩
theorem mI_X9_heir : zMI yX9_heir prog_1_method_47_code 2 (Option.some FieldType.int) 1 := ⟨kd_X9_heir, ini_RX9, by decide +kernel, by decide +kernel⟩
theorem mI_X4_heirOf : zMI yX4_heirOf prog_6_method_6_code 4 (Option.some FieldType.int) 1 := ⟨kd_X4_heirOf, ini_RX4, by decide +kernel, by decide +kernel⟩
theorem mI_X9_fates : zMI yX9_fates prog_1_method_48_code 5 (Option.some FieldType.int) 4 := ⟨kd_X9_fates, ini_RX9, by decide +kernel, by decide +kernel⟩
theorem mI_X4_fateOf : zMI yX4_fateOf prog_6_method_21_code 5 (Option.some FieldType.int) 4 := ⟨kd_X4_fateOf, ini_RX4, by decide +kernel, by decide +kernel⟩
theorem mI_X4_playFate : zMI yX4_playFate prog_6_method_23_code 6 (Option.none : Option FieldType) 3 := ⟨kd_X4_playFate, ini_RX4, by decide +kernel, by decide +kernel⟩
theorem mI_X4_drawDeaths : zMI yX4_drawDeaths prog_6_method_24_code 6 (Option.some FieldType.int) 2 := ⟨kd_X4_drawDeaths, ini_RX4, by decide +kernel, by decide +kernel⟩
theorem mI_X9_span : zMI yX9_span prog_1_method_49_code 7 (Option.some FieldType.int) 6 := ⟨kd_X9_span, ini_RX9, by decide +kernel, by decide +kernel⟩
theorem mI_X4_tryFates : zMI yX4_tryFates prog_6_method_22_code 7 (Option.none : Option FieldType) 5 := ⟨kd_X4_tryFates, ini_RX4, by decide +kernel, by decide +kernel⟩
theorem mI_X10_init : zMI yX10_init prog_12_method_1_code 1 (Option.none : Option FieldType) 0 := ⟨kd_X10_init, ini_RX10, by decide +kernel, by decide +kernel⟩
theorem mI_X10_tellsNothing : zMI yX10_tellsNothing prog_12_method_2_code 2 (Option.none : Option FieldType) 0 := ⟨kd_X10_tellsNothing, ini_RX10, by decide +kernel, by decide +kernel⟩
theorem mI_X10_stands : zMI yX10_stands prog_12_method_31_code 2 (Option.none : Option FieldType) 0 := ⟨kd_X10_stands, ini_RX10, by decide +kernel, by decide +kernel⟩
theorem mI_X10_lays : zMI yX10_lays prog_12_method_29_code 5 (Option.none : Option FieldType) 3 := ⟨kd_X10_lays, ini_RX10, by decide +kernel, by decide +kernel⟩
theorem mI_X10_in : zMI yX10_in prog_12_method_5_code 3 (Option.some FieldType.boolean) 3 := ⟨kd_X10_in, ini_RX10, by decide +kernel, by decide +kernel⟩
theorem mI_X10_copies : zMI yX10_copies prog_12_method_30_code 3 (Option.none : Option FieldType) 2 := ⟨kd_X10_copies, ini_RX10, by decide +kernel, by decide +kernel⟩
theorem mI_X10_settles : zMI yX10_settles prog_12_method_32_code 1 (Option.none : Option FieldType) 0 := ⟨kd_X10_settles, ini_RX10, by decide +kernel, by decide +kernel⟩
theorem mI_X10_thrown : zMI yX10_thrown prog_12_method_3_code 1 (Option.some FieldType.int) 0 := ⟨kd_X10_thrown, ini_RX10, by decide +kernel, by decide +kernel⟩
theorem mI_X10_feed : zMI yX10_feed prog_12_method_8_code 8 (Option.some FieldType.int) 5 := ⟨kd_X10_feed, ini_RX10, by decide +kernel, by decide +kernel⟩
theorem mI_X10_academy : zMI yX10_academy prog_12_method_28_code 2 (Option.some FieldType.int) 1 := ⟨kd_X10_academy, ini_RX10, by decide +kernel, by decide +kernel⟩
theorem mI_X10_bad : zMI yX10_bad prog_12_method_4_code 4 (Option.some FieldType.boolean) 3 := ⟨kd_X10_bad, ini_RX10, by decide +kernel, by decide +kernel⟩
theorem mI_X10_starts : zMI yX10_starts prog_12_method_22_code 2 (Option.none : Option FieldType) 1 := ⟨kd_X10_starts, ini_RX10, by decide +kernel, by decide +kernel⟩
theorem mI_X10_blanks : zMI yX10_blanks prog_12_method_10_code 1 (Option.none : Option FieldType) 0 := ⟨kd_X10_blanks, ini_RX10, by decide +kernel, by decide +kernel⟩
theorem mI_X10_byteAt : zMI yX10_byteAt prog_12_method_9_code 2 (Option.some FieldType.int) 1 := ⟨kd_X10_byteAt, ini_RX10, by decide +kernel, by decide +kernel⟩
theorem mI_X10_clause : zMI yX10_clause prog_12_method_27_code 5 (Option.none : Option FieldType) 0 := ⟨kd_X10_clause, ini_RX10, by decide +kernel, by decide +kernel⟩
theorem mI_X10_kindHere : zMI yX10_kindHere prog_12_method_24_code 1 (Option.some FieldType.int) 0 := ⟨kd_X10_kindHere, ini_RX10, by decide +kernel, by decide +kernel⟩
theorem mI_X10_isWord : zMI yX10_isWord prog_12_method_17_code 9 (Option.some FieldType.boolean) 8 := ⟨kd_X10_isWord, ini_RX10, by decide +kernel, by decide +kernel⟩
theorem mI_X10_wordHere : zMI yX10_wordHere prog_12_method_15_code 4 (Option.some FieldType.long) 0 := ⟨kd_X10_wordHere, ini_RX10, by decide +kernel, by decide +kernel⟩
theorem mI_X10_isSmall : zMI yX10_isSmall prog_12_method_13_code 1 (Option.some FieldType.boolean) 1 := ⟨kd_X10_isSmall, ini_RX10, by decide +kernel, by decide +kernel⟩
theorem mI_X10_eight : zMI yX10_eight prog_12_method_16_code 10 (Option.some FieldType.long) 8 := ⟨kd_X10_eight, ini_RX10, by decide +kernel, by decide +kernel⟩
theorem mI_X10_wrong : zMI yX10_wrong prog_12_method_11_code 3 (Option.none : Option FieldType) 2 := ⟨kd_X10_wrong, ini_RX10, by decide +kernel, by decide +kernel⟩
theorem mI_X10_isFull : zMI yX10_isFull prog_12_method_25_code 2 (Option.some FieldType.boolean) 1 := ⟨kd_X10_isFull, ini_RX10, by decide +kernel, by decide +kernel⟩
theorem mI_X10_skipWord : zMI yX10_skipWord prog_12_method_18_code 1 (Option.none : Option FieldType) 0 := ⟨kd_X10_skipWord, ini_RX10, by decide +kernel, by decide +kernel⟩
theorem mI_X10_number : zMI yX10_number prog_12_method_14_code 5 (Option.some FieldType.int) 2 := ⟨kd_X10_number, ini_RX10, by decide +kernel, by decide +kernel⟩
theorem mI_X10_isDigit : zMI yX10_isDigit prog_12_method_12_code 1 (Option.some FieldType.boolean) 1 := ⟨kd_X10_isDigit, ini_RX10, by decide +kernel, by decide +kernel⟩
theorem mI_X10_manHere : zMI yX10_manHere prog_12_method_26_code 1 (Option.some FieldType.int) 0 := ⟨kd_X10_manHere, ini_RX10, by decide +kernel, by decide +kernel⟩
theorem mI_X10_sign : zMI yX10_sign prog_12_method_20_code 2 (Option.none : Option FieldType) 1 := ⟨kd_X10_sign, ini_RX10, by decide +kernel, by decide +kernel⟩
theorem mI_X10_ends : zMI yX10_ends prog_12_method_23_code 1 (Option.some FieldType.int) 0 := ⟨kd_X10_ends, ini_RX10, by decide +kernel, by decide +kernel⟩
theorem mI_X10_law : zMI yX10_law prog_12_method_39_code 2 (Option.some FieldType.int) 1 := ⟨kd_X10_law, ini_RX10, by decide +kernel, by decide +kernel⟩
theorem mI_X10_sum : zMI yX10_sum prog_12_method_35_code 2 (Option.none : Option FieldType) 0 := ⟨kd_X10_sum, ini_RX10, by decide +kernel, by decide +kernel⟩
theorem mI_X10_product : zMI yX10_product prog_12_method_36_code 2 (Option.none : Option FieldType) 0 := ⟨kd_X10_product, ini_RX10, by decide +kernel, by decide +kernel⟩
theorem mI_X10_one : zMI yX10_one prog_12_method_38_code 3 (Option.none : Option FieldType) 0 := ⟨kd_X10_one, ini_RX10, by decide +kernel, by decide +kernel⟩
theorem mI_X10_opens : zMI yX10_opens prog_12_method_34_code 1 (Option.some FieldType.boolean) 0 := ⟨kd_X10_opens, ini_RX10, by decide +kernel, by decide +kernel⟩
theorem mI_X10_notes : zMI yX10_notes prog_12_method_33_code 3 (Option.none : Option FieldType) 2 := ⟨kd_X10_notes, ini_RX10, by decide +kernel, by decide +kernel⟩
theorem mI_X10_knownHere : zMI yX10_knownHere prog_12_method_37_code 1 (Option.some FieldType.int) 0 := ⟨kd_X10_knownHere, ini_RX10, by decide +kernel, by decide +kernel⟩
theorem mI_X10_takes : zMI yX10_takes prog_12_method_19_code 10 (Option.some FieldType.boolean) 8 := ⟨kd_X10_takes, ini_RX10, by decide +kernel, by decide +kernel⟩
theorem mI_X10_takesSign : zMI yX10_takesSign prog_12_method_21_code 3 (Option.some FieldType.boolean) 1 := ⟨kd_X10_takesSign, ini_RX10, by decide +kernel, by decide +kernel⟩
theorem mI_X10_book : zMI yX10_book prog_12_method_42_code 6 (Option.some FieldType.int) 1 := ⟨kd_X10_book, ini_RX10, by decide +kernel, by decide +kernel⟩
theorem mI_X10_fault : zMI yX10_fault prog_12_method_43_code 1 (Option.some FieldType.int) 0 := ⟨kd_X10_fault, ini_RX10, by decide +kernel, by decide +kernel⟩
theorem mI_X10_told : zMI yX10_told prog_12_method_45_code 2 (Option.some FieldType.int) 1 := ⟨kd_X10_told, ini_RX10, by decide +kernel, by decide +kernel⟩
theorem mI_X10_stateMany : zMI yX10_stateMany prog_12_method_44_code 5 (Option.some FieldType.int) 2 := ⟨kd_X10_stateMany, ini_RX10, by decide +kernel, by decide +kernel⟩
theorem mI_X10_man : zMI yX10_man prog_12_method_49_code 3 (Option.some FieldType.int) 2 := ⟨kd_X10_man, ini_RX10, by decide +kernel, by decide +kernel⟩
theorem mI_X10_isMan : zMI yX10_isMan prog_12_method_46_code 2 (Option.some FieldType.boolean) 1 := ⟨kd_X10_isMan, ini_RX10, by decide +kernel, by decide +kernel⟩
theorem mI_X10_chairOf : zMI yX10_chairOf prog_12_method_48_code 3 (Option.some FieldType.int) 2 := ⟨kd_X10_chairOf, ini_RX10, by decide +kernel, by decide +kernel⟩
theorem mI_X10_sides : zMI yX10_sides prog_12_method_50_code 2 (Option.some FieldType.int) 1 := ⟨kd_X10_sides, ini_RX10, by decide +kernel, by decide +kernel⟩
theorem mI_X10_isQuestion : zMI yX10_isQuestion prog_12_method_47_code 2 (Option.some FieldType.boolean) 1 := ⟨kd_X10_isQuestion, ini_RX10, by decide +kernel, by decide +kernel⟩
theorem mI_X10_believes : zMI yX10_believes prog_12_method_51_code 3 (Option.some FieldType.int) 2 := ⟨kd_X10_believes, ini_RX10, by decide +kernel, by decide +kernel⟩
theorem mI_X10_chair : zMI yX10_chair prog_12_method_52_code 2 (Option.some FieldType.int) 1 := ⟨kd_X10_chair, ini_RX10, by decide +kernel, by decide +kernel⟩
theorem mI_X10_differs : zMI yX10_differs prog_12_method_54_code 3 (Option.some FieldType.int) 2 := ⟨kd_X10_differs, ini_RX10, by decide +kernel, by decide +kernel⟩
theorem mI_X10_differsOf : zMI yX10_differsOf prog_12_method_53_code 5 (Option.some FieldType.int) 2 := ⟨kd_X10_differsOf, ini_RX10, by decide +kernel, by decide +kernel⟩
theorem mI_X10_score : zMI yX10_score prog_12_method_58_code 2 (Option.some FieldType.int) 1 := ⟨kd_X10_score, ini_RX10, by decide +kernel, by decide +kernel⟩
theorem mI_X10_scoreOf : zMI yX10_scoreOf prog_12_method_57_code 3 (Option.some FieldType.int) 2 := ⟨kd_X10_scoreOf, ini_RX10, by decide +kernel, by decide +kernel⟩
theorem mI_X10_lastOf : zMI yX10_lastOf prog_12_method_56_code 1 (Option.some FieldType.int) 1 := ⟨kd_X10_lastOf, ini_RX10, by decide +kernel, by decide +kernel⟩
theorem mI_X10_byLaw : zMI yX10_byLaw prog_12_method_41_code 3 (Option.some FieldType.int) 0 := ⟨kd_X10_byLaw, ini_RX10, by decide +kernel, by decide +kernel⟩
theorem mI_X10_by : zMI yX10_by prog_12_method_40_code 3 (Option.some FieldType.int) 3 := ⟨kd_X10_by, ini_RX10, by decide +kernel, by decide +kernel⟩
theorem mI_X10_less : zMI yX10_less prog_12_method_6_code 2 (Option.some FieldType.int) 2 := ⟨kd_X10_less, ini_RX10, by decide +kernel, by decide +kernel⟩
theorem mI_X10_more : zMI yX10_more prog_12_method_7_code 2 (Option.some FieldType.int) 2 := ⟨kd_X10_more, ini_RX10, by decide +kernel, by decide +kernel⟩
theorem mI_X10_praiseOf : zMI yX10_praiseOf prog_12_method_55_code 5 (Option.some FieldType.int) 2 := ⟨kd_X10_praiseOf, ini_RX10, by decide +kernel, by decide +kernel⟩
theorem mI_X10_next : zMI yX10_next prog_12_method_66_code 1 (Option.some FieldType.int) 0 := ⟨kd_X10_next, ini_RX10, by decide +kernel, by decide +kernel⟩
theorem mI_X10_goes : zMI yX10_goes prog_12_method_65_code 4 (Option.none : Option FieldType) 1 := ⟨kd_X10_goes, ini_RX10, by decide +kernel, by decide +kernel⟩
theorem mI_X10_deathsOf : zMI yX10_deathsOf prog_12_method_63_code 3 (Option.none : Option FieldType) 1 := ⟨kd_X10_deathsOf, ini_RX10, by decide +kernel, by decide +kernel⟩
theorem mI_X10_dies : zMI yX10_dies prog_12_method_62_code 4 (Option.none : Option FieldType) 2 := ⟨kd_X10_dies, ini_RX10, by decide +kernel, by decide +kernel⟩
theorem mI_X10_risesFrom : zMI yX10_risesFrom prog_12_method_60_code 3 (Option.none : Option FieldType) 2 := ⟨kd_X10_risesFrom, ini_RX10, by decide +kernel, by decide +kernel⟩
theorem mI_X10_leaves : zMI yX10_leaves prog_12_method_61_code 2 (Option.none : Option FieldType) 2 := ⟨kd_X10_leaves, ini_RX10, by decide +kernel, by decide +kernel⟩
theorem mI_X10_fatesOf : zMI yX10_fatesOf prog_12_method_64_code 5 (Option.none : Option FieldType) 1 := ⟨kd_X10_fatesOf, ini_RX10, by decide +kernel, by decide +kernel⟩
theorem mI_X10_chosen : zMI yX10_chosen prog_12_method_59_code 6 (Option.some FieldType.int) 1 := ⟨kd_X10_chosen, ini_RX10, by decide +kernel, by decide +kernel⟩
theorem mI_X10_years : zMI yX10_years prog_12_method_67_code 3 (Option.some FieldType.int) 1 := ⟨kd_X10_years, ini_RX10, by decide +kernel, by decide +kernel⟩
theorem mI_X10_undo : zMI yX10_undo prog_12_method_68_code 4 (Option.some FieldType.int) 1 := ⟨kd_X10_undo, ini_RX10, by decide +kernel, by decide +kernel⟩
theorem mI_X10_taken : zMI yX10_taken prog_12_method_69_code 2 (Option.some FieldType.int) 1 := ⟨kd_X10_taken, ini_RX10, by decide +kernel, by decide +kernel⟩
theorem mI_X10_sums : zMI yX10_sums prog_12_method_70_code 2 (Option.some FieldType.int) 1 := ⟨kd_X10_sums, ini_RX10, by decide +kernel, by decide +kernel⟩
theorem mI_X10_die : zMI yX10_die prog_12_method_71_code 3 (Option.some FieldType.int) 1 := ⟨kd_X10_die, ini_RX10, by decide +kernel, by decide +kernel⟩
theorem mI_X10_praise : zMI yX10_praise prog_12_method_72_code 4 (Option.some FieldType.int) 2 := ⟨kd_X10_praise, ini_RX10, by decide +kernel, by decide +kernel⟩
theorem mI_X10_ahead : zMI yX10_ahead prog_12_method_73_code 4 (Option.some FieldType.int) 2 := ⟨kd_X10_ahead, ini_RX10, by decide +kernel, by decide +kernel⟩
theorem mI_X10_when : zMI yX10_when prog_12_method_75_code 2 (Option.some FieldType.int) 1 := ⟨kd_X10_when, ini_RX10, by decide +kernel, by decide +kernel⟩
theorem mI_X10_whenOf : zMI yX10_whenOf prog_12_method_74_code 5 (Option.some FieldType.int) 2 := ⟨kd_X10_whenOf, ini_RX10, by decide +kernel, by decide +kernel⟩
theorem mI_X10_breaks : zMI yX10_breaks prog_12_method_76_code 1 (Option.some FieldType.int) 0 := ⟨kd_X10_breaks, ini_RX10, by decide +kernel, by decide +kernel⟩
theorem mI_X10_stays : zMI yX10_stays prog_12_method_77_code 3 (Option.some FieldType.int) 1 := ⟨kd_X10_stays, ini_RX10, by decide +kernel, by decide +kernel⟩
theorem mI_X10_heir : zMI yX10_heir prog_12_method_78_code 3 (Option.some FieldType.int) 1 := ⟨kd_X10_heir, ini_RX10, by decide +kernel, by decide +kernel⟩
theorem mI_X10_doomed : zMI yX10_doomed prog_12_method_79_code 4 (Option.some FieldType.int) 1 := ⟨kd_X10_doomed, ini_RX10, by decide +kernel, by decide +kernel⟩
theorem mI_X10_praises : zMI yX10_praises prog_12_method_81_code 5 (Option.some FieldType.int) 4 := ⟨kd_X10_praises, ini_RX10, by decide +kernel, by decide +kernel⟩
theorem mI_X10_hopesFor : zMI yX10_hopesFor prog_12_method_80_code 9 (Option.none : Option FieldType) 7 := ⟨kd_X10_hopesFor, ini_RX10, by decide +kernel, by decide +kernel⟩
theorem mI_X10_wants : zMI yX10_wants prog_12_method_83_code 3 (Option.some FieldType.int) 1 := ⟨kd_X10_wants, ini_RX10, by decide +kernel, by decide +kernel⟩
theorem mI_X10_takenBy : zMI yX10_takenBy prog_12_method_82_code 5 (Option.some FieldType.int) 3 := ⟨kd_X10_takenBy, ini_RX10, by decide +kernel, by decide +kernel⟩
theorem mI_X10_patrons : zMI yX10_patrons prog_12_method_86_code 9 (Option.some FieldType.int) 4 := ⟨kd_X10_patrons, ini_RX10, by decide +kernel, by decide +kernel⟩
theorem mI_X10_mayDo : zMI yX10_mayDo prog_12_method_85_code 2 (Option.some FieldType.boolean) 1 := ⟨kd_X10_mayDo, ini_RX10, by decide +kernel, by decide +kernel⟩
theorem mI_X10_isQuiet : zMI yX10_isQuiet prog_12_method_84_code 6 (Option.some FieldType.boolean) 4 := ⟨kd_X10_isQuiet, ini_RX10, by decide +kernel, by decide +kernel⟩
theorem mI_X10_right : zMI yX10_right prog_12_method_88_code 1 (Option.some FieldType.int) 0 := ⟨kd_X10_right, ini_RX10, by decide +kernel, by decide +kernel⟩
theorem mI_X10_rightLines : zMI yX10_rightLines prog_12_method_87_code 4 (Option.some FieldType.int) 0 := ⟨kd_X10_rightLines, ini_RX10, by decide +kernel, by decide +kernel⟩
theorem mI_X10_beliefs : zMI yX10_beliefs prog_12_method_90_code 3 (Option.some FieldType.int) 2 := ⟨kd_X10_beliefs, ini_RX10, by decide +kernel, by decide +kernel⟩
theorem mI_X10_laysBeliefs : zMI yX10_laysBeliefs prog_12_method_89_code 8 (Option.none : Option FieldType) 1 := ⟨kd_X10_laysBeliefs, ini_RX10, by decide +kernel, by decide +kernel⟩
theorem mI_X10_sure : zMI yX10_sure prog_12_method_91_code 3 (Option.some FieldType.int) 2 := ⟨kd_X10_sure, ini_RX10, by decide +kernel, by decide +kernel⟩
theorem mI_X10_dead : zMI yX10_dead prog_12_method_92_code 4 (Option.some FieldType.int) 1 := ⟨kd_X10_dead, ini_RX10, by decide +kernel, by decide +kernel⟩
theorem mI_X10_enemy : zMI yX10_enemy prog_12_method_94_code 2 (Option.some FieldType.int) 1 := ⟨kd_X10_enemy, ini_RX10, by decide +kernel, by decide +kernel⟩
theorem mI_X10_enemyOf : zMI yX10_enemyOf prog_12_method_93_code 4 (Option.some FieldType.int) 1 := ⟨kd_X10_enemyOf, ini_RX10, by decide +kernel, by decide +kernel⟩
theorem mI_X10_ring : zMI yX10_ring prog_12_method_97_code 5 (Option.some FieldType.int) 2 := ⟨kd_X10_ring, ini_RX10, by decide +kernel, by decide +kernel⟩
theorem mI_X10_hasRing : zMI yX10_hasRing prog_12_method_98_code 2 (Option.some FieldType.boolean) 1 := ⟨kd_X10_hasRing, ini_RX10, by decide +kernel, by decide +kernel⟩
theorem mI_X10_ringOf : zMI yX10_ringOf prog_12_method_95_code 5 (Option.some FieldType.int) 1 := ⟨kd_X10_ringOf, ini_RX10, by decide +kernel, by decide +kernel⟩
theorem mI_X10_ones : zMI yX10_ones prog_12_method_96_code 3 (Option.some FieldType.int) 1 := ⟨kd_X10_ones, ini_RX10, by decide +kernel, by decide +kernel⟩
theorem mI_X10_ringed : zMI yX10_ringed prog_12_method_99_code 3 (Option.some FieldType.int) 0 := ⟨kd_X10_ringed, ini_RX10, by decide +kernel, by decide +kernel⟩
theorem mI_X10_allies : zMI yX10_allies prog_12_method_100_code 4 (Option.some FieldType.int) 1 := ⟨kd_X10_allies, ini_RX10, by decide +kernel, by decide +kernel⟩
theorem mI_X10_pair : zMI yX10_pair prog_12_method_101_code 7 (Option.some FieldType.int) 1 := ⟨kd_X10_pair, ini_RX10, by decide +kernel, by decide +kernel⟩
theorem mI_X10_rank : zMI yX10_rank prog_12_method_102_code 5 (Option.some FieldType.int) 1 := ⟨kd_X10_rank, ini_RX10, by decide +kernel, by decide +kernel⟩
theorem mI_X10_lead : zMI yX10_lead prog_12_method_103_code 4 (Option.some FieldType.int) 0 := ⟨kd_X10_lead, ini_RX10, by decide +kernel, by decide +kernel⟩
theorem mI_X10_vote : zMI yX10_vote prog_12_method_105_code 4 (Option.some FieldType.int) 3 := ⟨kd_X10_vote, ini_RX10, by decide +kernel, by decide +kernel⟩
theorem mI_X10_voteOf : zMI yX10_voteOf prog_12_method_104_code 7 (Option.some FieldType.int) 4 := ⟨kd_X10_voteOf, ini_RX10, by decide +kernel, by decide +kernel⟩
theorem mI_X10_skip : zMI yX10_skip prog_12_method_106_code 6 (Option.some FieldType.int) 1 := ⟨kd_X10_skip, ini_RX10, by decide +kernel, by decide +kernel⟩
theorem mI_X10_middle : zMI yX10_middle prog_12_method_107_code 6 (Option.some FieldType.int) 0 := ⟨kd_X10_middle, ini_RX10, by decide +kernel, by decide +kernel⟩
theorem mI_X10_flip : zMI yX10_flip prog_12_method_108_code 7 (Option.some FieldType.int) 1 := ⟨kd_X10_flip, ini_RX10, by decide +kernel, by decide +kernel⟩
theorem mI_X10_quorum : zMI yX10_quorum prog_12_method_109_code 4 (Option.some FieldType.int) 1 := ⟨kd_X10_quorum, ini_RX10, by decide +kernel, by decide +kernel⟩
theorem mI_X10_seams : zMI yX10_seams prog_12_method_110_code 3 (Option.some FieldType.int) 0 := ⟨kd_X10_seams, ini_RX10, by decide +kernel, by decide +kernel⟩
theorem mI_X10_kin : zMI yX10_kin prog_12_method_111_code 5 (Option.some FieldType.int) 0 := ⟨kd_X10_kin, ini_RX10, by decide +kernel, by decide +kernel⟩
theorem mI_X10_fates : zMI yX10_fates prog_12_method_113_code 5 (Option.some FieldType.int) 4 := ⟨kd_X10_fates, ini_RX10, by decide +kernel, by decide +kernel⟩
theorem mI_X10_fatesBy : zMI yX10_fatesBy prog_12_method_112_code 5 (Option.none : Option FieldType) 3 := ⟨kd_X10_fatesBy, ini_RX10, by decide +kernel, by decide +kernel⟩
theorem mI_X10_span : zMI yX10_span prog_12_method_114_code 11 (Option.some FieldType.int) 6 := ⟨kd_X10_span, ini_RX10, by decide +kernel, by decide +kernel⟩
theorem mI_X10_image : zMI yX10_image prog_12_method_115_code 1 (Option.some FieldType.int) 0 := ⟨kd_X10_image, ini_RX10, by decide +kernel, by decide +kernel⟩
theorem mI_X10_restore : zMI yX10_restore prog_12_method_116_code 1 (Option.some FieldType.int) 0 := ⟨kd_X10_restore, ini_RX10, by decide +kernel, by decide +kernel⟩
theorem mI_X10_status : zMI yX10_status prog_12_method_117_code 2 (Option.some FieldType.int) 1 := ⟨kd_X10_status, ini_RX10, by decide +kernel, by decide +kernel⟩
theorem mI_X10_count : zMI yX10_count prog_12_method_118_code 2 (Option.some FieldType.int) 1 := ⟨kd_X10_count, ini_RX10, by decide +kernel, by decide +kernel⟩
theorem uw_0 : ∀ w ∈ u_ws RX0 TX0 16, w ∈ zTbl := by decide +kernel
theorem zg_0_0 {x : zCx} {G : zG} {cc : ByteArray} {nL : Nat} {own : String} {fr lo : Nat} {Q : State → Prop} {cs sl pc : Nat} {ls : List (Nat × Value)} {st : List Value} {v : zV} (F : zF x G cc nL own fr lo) {i idx : Nat} (hT : zty G i 1 0) (hlink : Cond.fieldLink own idx "ContraryChairs$Academy" "questions" "I" ∈ zTbl) (hd : decode cc pc = .ok (.getfield idx, 3)) (kk : zJ x G nL Q cs sl (pc + 3) ls (.int (v i 0) :: st) v) : zJ x G nL Q cs sl pc ls (zr G i :: st) v := z_getI F (c := 0) (C := RX0) (T := TX0) (N := 16) rfl uw_0 0 (by decide) (by decide +kernel) (by decide +kernel) hT hlink hd kk
theorem zp_0_0 {x : zCx} {G : zG} {cc : ByteArray} {nL : Nat} {own : String} {fr lo : Nat} {Q : State → Prop} {cs sl pc : Nat} {ls : List (Nat × Value)} {st : List Value} {v : zV} (F : zF x G cc nL own fr lo) {i idx : Nat} {y : Int32} (hT : zty G i 1 0) (hlink : Cond.fieldLink own idx "ContraryChairs$Academy" "questions" "I" ∈ zTbl) (hd : decode cc pc = .ok (.putfield idx, 3)) (kk : zJ x G nL Q cs sl (pc + 3) ls st (zup v i 0 y)) : zJ x G nL Q cs sl pc ls (.int y :: zr G i :: st) v := z_putI F (c := 0) (C := RX0) (T := TX0) (N := 16) (ty := .int) tyX0 tyX0_ok nmX0 rfl uw_0 0 (by decide) (by decide +kernel) (by decide +kernel) rfl (by decide +kernel) rfl rfl hT hlink hd kk
theorem zg_0_1 {x : zCx} {G : zG} {cc : ByteArray} {nL : Nat} {own : String} {fr lo : Nat} {Q : State → Prop} {cs sl pc : Nat} {ls : List (Nat × Value)} {st : List Value} {v : zV} (F : zF x G cc nL own fr lo) {i idx : Nat} (hT : zty G i 1 0) (hlink : Cond.fieldLink own idx "ContraryChairs$Academy" "men" "I" ∈ zTbl) (hd : decode cc pc = .ok (.getfield idx, 3)) (kk : zJ x G nL Q cs sl (pc + 3) ls (.int (v i 1) :: st) v) : zJ x G nL Q cs sl pc ls (zr G i :: st) v := z_getI F (c := 0) (C := RX0) (T := TX0) (N := 16) rfl uw_0 1 (by decide) (by decide +kernel) (by decide +kernel) hT hlink hd kk
theorem zp_0_1 {x : zCx} {G : zG} {cc : ByteArray} {nL : Nat} {own : String} {fr lo : Nat} {Q : State → Prop} {cs sl pc : Nat} {ls : List (Nat × Value)} {st : List Value} {v : zV} (F : zF x G cc nL own fr lo) {i idx : Nat} {y : Int32} (hT : zty G i 1 0) (hlink : Cond.fieldLink own idx "ContraryChairs$Academy" "men" "I" ∈ zTbl) (hd : decode cc pc = .ok (.putfield idx, 3)) (kk : zJ x G nL Q cs sl (pc + 3) ls st (zup v i 1 y)) : zJ x G nL Q cs sl pc ls (.int y :: zr G i :: st) v := z_putI F (c := 0) (C := RX0) (T := TX0) (N := 16) (ty := .int) tyX0 tyX0_ok nmX0 rfl uw_0 1 (by decide) (by decide +kernel) (by decide +kernel) rfl (by decide +kernel) rfl rfl hT hlink hd kk
theorem zg_0_2 {x : zCx} {G : zG} {cc : ByteArray} {nL : Nat} {own : String} {fr lo : Nat} {Q : State → Prop} {cs sl pc : Nat} {ls : List (Nat × Value)} {st : List Value} {v : zV} (F : zF x G cc nL own fr lo) {i idx : Nat} (hT : zty G i 1 0) (hlink : Cond.fieldLink own idx "ContraryChairs$Academy" "chairs" "I" ∈ zTbl) (hd : decode cc pc = .ok (.getfield idx, 3)) (kk : zJ x G nL Q cs sl (pc + 3) ls (.int (v i 2) :: st) v) : zJ x G nL Q cs sl pc ls (zr G i :: st) v := z_getI F (c := 0) (C := RX0) (T := TX0) (N := 16) rfl uw_0 2 (by decide) (by decide +kernel) (by decide +kernel) hT hlink hd kk
theorem zp_0_2 {x : zCx} {G : zG} {cc : ByteArray} {nL : Nat} {own : String} {fr lo : Nat} {Q : State → Prop} {cs sl pc : Nat} {ls : List (Nat × Value)} {st : List Value} {v : zV} (F : zF x G cc nL own fr lo) {i idx : Nat} {y : Int32} (hT : zty G i 1 0) (hlink : Cond.fieldLink own idx "ContraryChairs$Academy" "chairs" "I" ∈ zTbl) (hd : decode cc pc = .ok (.putfield idx, 3)) (kk : zJ x G nL Q cs sl (pc + 3) ls st (zup v i 2 y)) : zJ x G nL Q cs sl pc ls (.int y :: zr G i :: st) v := z_putI F (c := 0) (C := RX0) (T := TX0) (N := 16) (ty := .int) tyX0 tyX0_ok nmX0 rfl uw_0 2 (by decide) (by decide +kernel) (by decide +kernel) rfl (by decide +kernel) rfl rfl hT hlink hd kk
theorem zg_0_3 {x : zCx} {G : zG} {cc : ByteArray} {nL : Nat} {own : String} {fr lo : Nat} {Q : State → Prop} {cs sl pc : Nat} {ls : List (Nat × Value)} {st : List Value} {v : zV} (F : zF x G cc nL own fr lo) {i idx : Nat} (hT : zty G i 1 0) (hlink : Cond.fieldLink own idx "ContraryChairs$Academy" "seats" "I" ∈ zTbl) (hd : decode cc pc = .ok (.getfield idx, 3)) (kk : zJ x G nL Q cs sl (pc + 3) ls (.int (v i 3) :: st) v) : zJ x G nL Q cs sl pc ls (zr G i :: st) v := z_getI F (c := 0) (C := RX0) (T := TX0) (N := 16) rfl uw_0 3 (by decide) (by decide +kernel) (by decide +kernel) hT hlink hd kk
theorem zp_0_3 {x : zCx} {G : zG} {cc : ByteArray} {nL : Nat} {own : String} {fr lo : Nat} {Q : State → Prop} {cs sl pc : Nat} {ls : List (Nat × Value)} {st : List Value} {v : zV} (F : zF x G cc nL own fr lo) {i idx : Nat} {y : Int32} (hT : zty G i 1 0) (hlink : Cond.fieldLink own idx "ContraryChairs$Academy" "seats" "I" ∈ zTbl) (hd : decode cc pc = .ok (.putfield idx, 3)) (kk : zJ x G nL Q cs sl (pc + 3) ls st (zup v i 3 y)) : zJ x G nL Q cs sl pc ls (.int y :: zr G i :: st) v := z_putI F (c := 0) (C := RX0) (T := TX0) (N := 16) (ty := .int) tyX0 tyX0_ok nmX0 rfl uw_0 3 (by decide) (by decide +kernel) (by decide +kernel) rfl (by decide +kernel) rfl rfl hT hlink hd kk
theorem zg_0_4 {x : zCx} {G : zG} {cc : ByteArray} {nL : Nat} {own : String} {fr lo : Nat} {Q : State → Prop} {cs sl pc : Nat} {ls : List (Nat × Value)} {st : List Value} {v : zV} (F : zF x G cc nL own fr lo) {i idx : Nat} (hT : zty G i 1 0) (hlink : Cond.fieldLink own idx "ContraryChairs$Academy" "deaths" "I" ∈ zTbl) (hd : decode cc pc = .ok (.getfield idx, 3)) (kk : zJ x G nL Q cs sl (pc + 3) ls (.int (v i 4) :: st) v) : zJ x G nL Q cs sl pc ls (zr G i :: st) v := z_getI F (c := 0) (C := RX0) (T := TX0) (N := 16) rfl uw_0 4 (by decide) (by decide +kernel) (by decide +kernel) hT hlink hd kk
theorem zp_0_4 {x : zCx} {G : zG} {cc : ByteArray} {nL : Nat} {own : String} {fr lo : Nat} {Q : State → Prop} {cs sl pc : Nat} {ls : List (Nat × Value)} {st : List Value} {v : zV} (F : zF x G cc nL own fr lo) {i idx : Nat} {y : Int32} (hT : zty G i 1 0) (hlink : Cond.fieldLink own idx "ContraryChairs$Academy" "deaths" "I" ∈ zTbl) (hd : decode cc pc = .ok (.putfield idx, 3)) (kk : zJ x G nL Q cs sl (pc + 3) ls st (zup v i 4 y)) : zJ x G nL Q cs sl pc ls (.int y :: zr G i :: st) v := z_putI F (c := 0) (C := RX0) (T := TX0) (N := 16) (ty := .int) tyX0 tyX0_ok nmX0 rfl uw_0 4 (by decide) (by decide +kernel) (by decide +kernel) rfl (by decide +kernel) rfl rfl hT hlink hd kk
theorem zg_0_5 {x : zCx} {G : zG} {cc : ByteArray} {nL : Nat} {own : String} {fr lo : Nat} {Q : State → Prop} {cs sl pc : Nat} {ls : List (Nat × Value)} {st : List Value} {v : zV} (F : zF x G cc nL own fr lo) {i idx : Nat} (hT : zty G i 1 0) (hlink : Cond.fieldLink own idx "ContraryChairs$Academy" "praises" "I" ∈ zTbl) (hd : decode cc pc = .ok (.getfield idx, 3)) (kk : zJ x G nL Q cs sl (pc + 3) ls (.int (v i 5) :: st) v) : zJ x G nL Q cs sl pc ls (zr G i :: st) v := z_getI F (c := 0) (C := RX0) (T := TX0) (N := 16) rfl uw_0 5 (by decide) (by decide +kernel) (by decide +kernel) hT hlink hd kk
theorem zp_0_5 {x : zCx} {G : zG} {cc : ByteArray} {nL : Nat} {own : String} {fr lo : Nat} {Q : State → Prop} {cs sl pc : Nat} {ls : List (Nat × Value)} {st : List Value} {v : zV} (F : zF x G cc nL own fr lo) {i idx : Nat} {y : Int32} (hT : zty G i 1 0) (hlink : Cond.fieldLink own idx "ContraryChairs$Academy" "praises" "I" ∈ zTbl) (hd : decode cc pc = .ok (.putfield idx, 3)) (kk : zJ x G nL Q cs sl (pc + 3) ls st (zup v i 5 y)) : zJ x G nL Q cs sl pc ls (.int y :: zr G i :: st) v := z_putI F (c := 0) (C := RX0) (T := TX0) (N := 16) (ty := .int) tyX0 tyX0_ok nmX0 rfl uw_0 5 (by decide) (by decide +kernel) (by decide +kernel) rfl (by decide +kernel) rfl rfl hT hlink hd kk
theorem zg_0_6 {x : zCx} {G : zG} {cc : ByteArray} {nL : Nat} {own : String} {fr lo : Nat} {Q : State → Prop} {cs sl pc : Nat} {ls : List (Nat × Value)} {st : List Value} {v : zV} (F : zF x G cc nL own fr lo) {i idx : Nat} (hT : zty G i 1 0) (hlink : Cond.fieldLink own idx "ContraryChairs$Academy" "chairsTold" "Z" ∈ zTbl) (hd : decode cc pc = .ok (.getfield idx, 3)) (kk : zJ x G nL Q cs sl (pc + 3) ls (.int (v i 6) :: st) v) : zJ x G nL Q cs sl pc ls (zr G i :: st) v := z_getI F (c := 0) (C := RX0) (T := TX0) (N := 16) rfl uw_0 6 (by decide) (by decide +kernel) (by decide +kernel) hT hlink hd kk
theorem zp_0_6 {x : zCx} {G : zG} {cc : ByteArray} {nL : Nat} {own : String} {fr lo : Nat} {Q : State → Prop} {cs sl pc : Nat} {ls : List (Nat × Value)} {st : List Value} {v : zV} (F : zF x G cc nL own fr lo) {i idx : Nat} {y : Int32} (hy : narrow .boolean (.int y) = .int y) (hf : fits .boolean (.int y) = true) (hT : zty G i 1 0) (hlink : Cond.fieldLink own idx "ContraryChairs$Academy" "chairsTold" "Z" ∈ zTbl) (hd : decode cc pc = .ok (.putfield idx, 3)) (kk : zJ x G nL Q cs sl (pc + 3) ls st (zup v i 6 y)) : zJ x G nL Q cs sl pc ls (.int y :: zr G i :: st) v := z_putI F (c := 0) (C := RX0) (T := TX0) (N := 16) (ty := .boolean) tyX0 tyX0_ok nmX0 rfl uw_0 6 (by decide) (by decide +kernel) (by decide +kernel) rfl (by decide +kernel) hy hf hT hlink hd kk
theorem zg_0_7 {x : zCx} {G : zG} {cc : ByteArray} {nL : Nat} {own : String} {fr lo : Nat} {Q : State → Prop} {cs sl pc : Nat} {ls : List (Nat × Value)} {st : List Value} {v : zV} (F : zF x G cc nL own fr lo) {i idx : Nat} (hT : zty G i 1 0) (hlink : Cond.fieldLink own idx "ContraryChairs$Academy" "sides" "[I" ∈ zTbl) (hd : decode cc pc = .ok (.getfield idx, 3)) (kk : zJ x G nL Q cs sl (pc + 3) ls (zr G (zrf i 7) :: st) v) : zJ x G nL Q cs sl pc ls (zr G i :: st) v := z_getR F (c := 0) (C := RX0) (T := TX0) (N := 16) rfl uw_0 7 (by decide) (by decide +kernel) (by decide +kernel) hT hlink hd kk
theorem tc_0_7 : zchk 0 7 2 0 = true := by decide +kernel
theorem zg_0_8 {x : zCx} {G : zG} {cc : ByteArray} {nL : Nat} {own : String} {fr lo : Nat} {Q : State → Prop} {cs sl pc : Nat} {ls : List (Nat × Value)} {st : List Value} {v : zV} (F : zF x G cc nL own fr lo) {i idx : Nat} (hT : zty G i 1 0) (hlink : Cond.fieldLink own idx "ContraryChairs$Academy" "ages" "[I" ∈ zTbl) (hd : decode cc pc = .ok (.getfield idx, 3)) (kk : zJ x G nL Q cs sl (pc + 3) ls (zr G (zrf i 8) :: st) v) : zJ x G nL Q cs sl pc ls (zr G i :: st) v := z_getR F (c := 0) (C := RX0) (T := TX0) (N := 16) rfl uw_0 8 (by decide) (by decide +kernel) (by decide +kernel) hT hlink hd kk
theorem tc_0_8 : zchk 0 8 2 0 = true := by decide +kernel
theorem zg_0_9 {x : zCx} {G : zG} {cc : ByteArray} {nL : Nat} {own : String} {fr lo : Nat} {Q : State → Prop} {cs sl pc : Nat} {ls : List (Nat × Value)} {st : List Value} {v : zV} (F : zF x G cc nL own fr lo) {i idx : Nat} (hT : zty G i 1 0) (hlink : Cond.fieldLink own idx "ContraryChairs$Academy" "codes" "[I" ∈ zTbl) (hd : decode cc pc = .ok (.getfield idx, 3)) (kk : zJ x G nL Q cs sl (pc + 3) ls (zr G (zrf i 9) :: st) v) : zJ x G nL Q cs sl pc ls (zr G i :: st) v := z_getR F (c := 0) (C := RX0) (T := TX0) (N := 16) rfl uw_0 9 (by decide) (by decide +kernel) (by decide +kernel) hT hlink hd kk
theorem tc_0_9 : zchk 0 9 2 0 = true := by decide +kernel
theorem zg_0_10 {x : zCx} {G : zG} {cc : ByteArray} {nL : Nat} {own : String} {fr lo : Nat} {Q : State → Prop} {cs sl pc : Nat} {ls : List (Nat × Value)} {st : List Value} {v : zV} (F : zF x G cc nL own fr lo) {i idx : Nat} (hT : zty G i 1 0) (hlink : Cond.fieldLink own idx "ContraryChairs$Academy" "seated" "[I" ∈ zTbl) (hd : decode cc pc = .ok (.getfield idx, 3)) (kk : zJ x G nL Q cs sl (pc + 3) ls (zr G (zrf i 10) :: st) v) : zJ x G nL Q cs sl pc ls (zr G i :: st) v := z_getR F (c := 0) (C := RX0) (T := TX0) (N := 16) rfl uw_0 10 (by decide) (by decide +kernel) (by decide +kernel) hT hlink hd kk
theorem tc_0_10 : zchk 0 10 2 0 = true := by decide +kernel
theorem zg_0_11 {x : zCx} {G : zG} {cc : ByteArray} {nL : Nat} {own : String} {fr lo : Nat} {Q : State → Prop} {cs sl pc : Nat} {ls : List (Nat × Value)} {st : List Value} {v : zV} (F : zF x G cc nL own fr lo) {i idx : Nat} (hT : zty G i 1 0) (hlink : Cond.fieldLink own idx "ContraryChairs$Academy" "deathYears" "[I" ∈ zTbl) (hd : decode cc pc = .ok (.getfield idx, 3)) (kk : zJ x G nL Q cs sl (pc + 3) ls (zr G (zrf i 11) :: st) v) : zJ x G nL Q cs sl pc ls (zr G i :: st) v := z_getR F (c := 0) (C := RX0) (T := TX0) (N := 16) rfl uw_0 11 (by decide) (by decide +kernel) (by decide +kernel) hT hlink hd kk
theorem tc_0_11 : zchk 0 11 2 0 = true := by decide +kernel
theorem zg_0_12 {x : zCx} {G : zG} {cc : ByteArray} {nL : Nat} {own : String} {fr lo : Nat} {Q : State → Prop} {cs sl pc : Nat} {ls : List (Nat × Value)} {st : List Value} {v : zV} (F : zF x G cc nL own fr lo) {i idx : Nat} (hT : zty G i 1 0) (hlink : Cond.fieldLink own idx "ContraryChairs$Academy" "deathMen" "[I" ∈ zTbl) (hd : decode cc pc = .ok (.getfield idx, 3)) (kk : zJ x G nL Q cs sl (pc + 3) ls (zr G (zrf i 12) :: st) v) : zJ x G nL Q cs sl pc ls (zr G i :: st) v := z_getR F (c := 0) (C := RX0) (T := TX0) (N := 16) rfl uw_0 12 (by decide) (by decide +kernel) (by decide +kernel) hT hlink hd kk
theorem tc_0_12 : zchk 0 12 2 0 = true := by decide +kernel
theorem zg_0_13 {x : zCx} {G : zG} {cc : ByteArray} {nL : Nat} {own : String} {fr lo : Nat} {Q : State → Prop} {cs sl pc : Nat} {ls : List (Nat × Value)} {st : List Value} {v : zV} (F : zF x G cc nL own fr lo) {i idx : Nat} (hT : zty G i 1 0) (hlink : Cond.fieldLink own idx "ContraryChairs$Academy" "praiseYears" "[I" ∈ zTbl) (hd : decode cc pc = .ok (.getfield idx, 3)) (kk : zJ x G nL Q cs sl (pc + 3) ls (zr G (zrf i 13) :: st) v) : zJ x G nL Q cs sl pc ls (zr G i :: st) v := z_getR F (c := 0) (C := RX0) (T := TX0) (N := 16) rfl uw_0 13 (by decide) (by decide +kernel) (by decide +kernel) hT hlink hd kk
theorem tc_0_13 : zchk 0 13 2 0 = true := by decide +kernel
theorem zg_0_14 {x : zCx} {G : zG} {cc : ByteArray} {nL : Nat} {own : String} {fr lo : Nat} {Q : State → Prop} {cs sl pc : Nat} {ls : List (Nat × Value)} {st : List Value} {v : zV} (F : zF x G cc nL own fr lo) {i idx : Nat} (hT : zty G i 1 0) (hlink : Cond.fieldLink own idx "ContraryChairs$Academy" "praiseMen" "[I" ∈ zTbl) (hd : decode cc pc = .ok (.getfield idx, 3)) (kk : zJ x G nL Q cs sl (pc + 3) ls (zr G (zrf i 14) :: st) v) : zJ x G nL Q cs sl pc ls (zr G i :: st) v := z_getR F (c := 0) (C := RX0) (T := TX0) (N := 16) rfl uw_0 14 (by decide) (by decide +kernel) (by decide +kernel) hT hlink hd kk
theorem tc_0_14 : zchk 0 14 2 0 = true := by decide +kernel
theorem zg_0_15 {x : zCx} {G : zG} {cc : ByteArray} {nL : Nat} {own : String} {fr lo : Nat} {Q : State → Prop} {cs sl pc : Nat} {ls : List (Nat × Value)} {st : List Value} {v : zV} (F : zF x G cc nL own fr lo) {i idx : Nat} (hT : zty G i 1 0) (hlink : Cond.fieldLink own idx "ContraryChairs$Academy" "praiseBy" "[I" ∈ zTbl) (hd : decode cc pc = .ok (.getfield idx, 3)) (kk : zJ x G nL Q cs sl (pc + 3) ls (zr G (zrf i 15) :: st) v) : zJ x G nL Q cs sl pc ls (zr G i :: st) v := z_getR F (c := 0) (C := RX0) (T := TX0) (N := 16) rfl uw_0 15 (by decide) (by decide +kernel) (by decide +kernel) hT hlink hd kk
theorem tc_0_15 : zchk 0 15 2 0 = true := by decide +kernel
theorem uw_1 : ∀ w ∈ u_ws RX1 TX1 3, w ∈ zTbl := by decide +kernel
theorem zg_1_0 {x : zCx} {G : zG} {cc : ByteArray} {nL : Nat} {own : String} {fr lo : Nat} {Q : State → Prop} {cs sl pc : Nat} {ls : List (Nat × Value)} {st : List Value} {v : zV} (F : zF x G cc nL own fr lo) {i idx : Nat} (hT : zty G i 1 1) (hlink : Cond.fieldLink own idx "ContraryChairs$Book" "lines" "I" ∈ zTbl) (hd : decode cc pc = .ok (.getfield idx, 3)) (kk : zJ x G nL Q cs sl (pc + 3) ls (.int (v i 0) :: st) v) : zJ x G nL Q cs sl pc ls (zr G i :: st) v := z_getI F (c := 1) (C := RX1) (T := TX1) (N := 3) rfl uw_1 0 (by decide) (by decide +kernel) (by decide +kernel) hT hlink hd kk
theorem zp_1_0 {x : zCx} {G : zG} {cc : ByteArray} {nL : Nat} {own : String} {fr lo : Nat} {Q : State → Prop} {cs sl pc : Nat} {ls : List (Nat × Value)} {st : List Value} {v : zV} (F : zF x G cc nL own fr lo) {i idx : Nat} {y : Int32} (hT : zty G i 1 1) (hlink : Cond.fieldLink own idx "ContraryChairs$Book" "lines" "I" ∈ zTbl) (hd : decode cc pc = .ok (.putfield idx, 3)) (kk : zJ x G nL Q cs sl (pc + 3) ls st (zup v i 0 y)) : zJ x G nL Q cs sl pc ls (.int y :: zr G i :: st) v := z_putI F (c := 1) (C := RX1) (T := TX1) (N := 3) (ty := .int) tyX1 tyX1_ok nmX1 rfl uw_1 0 (by decide) (by decide +kernel) (by decide +kernel) rfl (by decide +kernel) rfl rfl hT hlink hd kk
theorem zg_1_1 {x : zCx} {G : zG} {cc : ByteArray} {nL : Nat} {own : String} {fr lo : Nat} {Q : State → Prop} {cs sl pc : Nat} {ls : List (Nat × Value)} {st : List Value} {v : zV} (F : zF x G cc nL own fr lo) {i idx : Nat} (hT : zty G i 1 1) (hlink : Cond.fieldLink own idx "ContraryChairs$Book" "years" "[I" ∈ zTbl) (hd : decode cc pc = .ok (.getfield idx, 3)) (kk : zJ x G nL Q cs sl (pc + 3) ls (zr G (zrf i 1) :: st) v) : zJ x G nL Q cs sl pc ls (zr G i :: st) v := z_getR F (c := 1) (C := RX1) (T := TX1) (N := 3) rfl uw_1 1 (by decide) (by decide +kernel) (by decide +kernel) hT hlink hd kk
theorem tc_1_1 : zchk 1 1 2 0 = true := by decide +kernel
theorem zg_1_2 {x : zCx} {G : zG} {cc : ByteArray} {nL : Nat} {own : String} {fr lo : Nat} {Q : State → Prop} {cs sl pc : Nat} {ls : List (Nat × Value)} {st : List Value} {v : zV} (F : zF x G cc nL own fr lo) {i idx : Nat} (hT : zty G i 1 1) (hlink : Cond.fieldLink own idx "ContraryChairs$Book" "men" "[I" ∈ zTbl) (hd : decode cc pc = .ok (.getfield idx, 3)) (kk : zJ x G nL Q cs sl (pc + 3) ls (zr G (zrf i 2) :: st) v) : zJ x G nL Q cs sl pc ls (zr G i :: st) v := z_getR F (c := 1) (C := RX1) (T := TX1) (N := 3) rfl uw_1 2 (by decide) (by decide +kernel) (by decide +kernel) hT hlink hd kk
theorem tc_1_2 : zchk 1 2 2 0 = true := by decide +kernel
theorem uw_2 : ∀ w ∈ u_ws RX2 TX2 3, w ∈ zTbl := by decide +kernel
theorem zg_2_0 {x : zCx} {G : zG} {cc : ByteArray} {nL : Nat} {own : String} {fr lo : Nat} {Q : State → Prop} {cs sl pc : Nat} {ls : List (Nat × Value)} {st : List Value} {v : zV} (F : zF x G cc nL own fr lo) {i idx : Nat} (hT : zty G i 1 2) (hlink : Cond.fieldLink own idx "ContraryChairs$Calendar" "academy" "LContraryChairs$Academy;" ∈ zTbl) (hd : decode cc pc = .ok (.getfield idx, 3)) (kk : zJ x G nL Q cs sl (pc + 3) ls (zr G (zrf i 0) :: st) v) : zJ x G nL Q cs sl pc ls (zr G i :: st) v := z_getR F (c := 2) (C := RX2) (T := TX2) (N := 3) rfl uw_2 0 (by decide) (by decide +kernel) (by decide +kernel) hT hlink hd kk
theorem tc_2_0 : zchk 2 0 1 0 = true := by decide +kernel
theorem zg_2_1 {x : zCx} {G : zG} {cc : ByteArray} {nL : Nat} {own : String} {fr lo : Nat} {Q : State → Prop} {cs sl pc : Nat} {ls : List (Nat × Value)} {st : List Value} {v : zV} (F : zF x G cc nL own fr lo) {i idx : Nat} (hT : zty G i 1 2) (hlink : Cond.fieldLink own idx "ContraryChairs$Calendar" "law" "LContraryChairs$Law;" ∈ zTbl) (hd : decode cc pc = .ok (.getfield idx, 3)) (kk : zJ x G nL Q cs sl (pc + 3) ls (zr G (zrf i 1) :: st) v) : zJ x G nL Q cs sl pc ls (zr G i :: st) v := z_getR F (c := 2) (C := RX2) (T := TX2) (N := 3) rfl uw_2 1 (by decide) (by decide +kernel) (by decide +kernel) hT hlink hd kk
theorem tc_2_1 : zchk 2 1 1 5 = true := by decide +kernel
theorem zg_2_2 {x : zCx} {G : zG} {cc : ByteArray} {nL : Nat} {own : String} {fr lo : Nat} {Q : State → Prop} {cs sl pc : Nat} {ls : List (Nat × Value)} {st : List Value} {v : zV} (F : zF x G cc nL own fr lo) {i idx : Nat} (hT : zty G i 1 2) (hlink : Cond.fieldLink own idx "ContraryChairs$Calendar" "scores" "[I" ∈ zTbl) (hd : decode cc pc = .ok (.getfield idx, 3)) (kk : zJ x G nL Q cs sl (pc + 3) ls (zr G (zrf i 2) :: st) v) : zJ x G nL Q cs sl pc ls (zr G i :: st) v := z_getR F (c := 2) (C := RX2) (T := TX2) (N := 3) rfl uw_2 2 (by decide) (by decide +kernel) (by decide +kernel) hT hlink hd kk
theorem tc_2_2 : zchk 2 2 2 0 = true := by decide +kernel
theorem uw_3 : ∀ w ∈ u_ws RX3 TX3 3, w ∈ zTbl := by decide +kernel
theorem zg_3_0 {x : zCx} {G : zG} {cc : ByteArray} {nL : Nat} {own : String} {fr lo : Nat} {Q : State → Prop} {cs sl pc : Nat} {ls : List (Nat × Value)} {st : List Value} {v : zV} (F : zF x G cc nL own fr lo) {i idx : Nat} (hT : zty G i 1 3) (hlink : Cond.fieldLink own idx "ContraryChairs$Company" "academy" "LContraryChairs$Academy;" ∈ zTbl) (hd : decode cc pc = .ok (.getfield idx, 3)) (kk : zJ x G nL Q cs sl (pc + 3) ls (zr G (zrf i 0) :: st) v) : zJ x G nL Q cs sl pc ls (zr G i :: st) v := z_getR F (c := 3) (C := RX3) (T := TX3) (N := 3) rfl uw_3 0 (by decide) (by decide +kernel) (by decide +kernel) hT hlink hd kk
theorem tc_3_0 : zchk 3 0 1 0 = true := by decide +kernel
theorem zg_3_1 {x : zCx} {G : zG} {cc : ByteArray} {nL : Nat} {own : String} {fr lo : Nat} {Q : State → Prop} {cs sl pc : Nat} {ls : List (Nat × Value)} {st : List Value} {v : zV} (F : zF x G cc nL own fr lo) {i idx : Nat} (hT : zty G i 1 3) (hlink : Cond.fieldLink own idx "ContraryChairs$Company" "now" "LContraryChairs$Row;" ∈ zTbl) (hd : decode cc pc = .ok (.getfield idx, 3)) (kk : zJ x G nL Q cs sl (pc + 3) ls (zr G (zrf i 1) :: st) v) : zJ x G nL Q cs sl pc ls (zr G i :: st) v := z_getR F (c := 3) (C := RX3) (T := TX3) (N := 3) rfl uw_3 1 (by decide) (by decide +kernel) (by decide +kernel) hT hlink hd kk
theorem tc_3_1 : zchk 3 1 1 7 = true := by decide +kernel
theorem zg_3_2 {x : zCx} {G : zG} {cc : ByteArray} {nL : Nat} {own : String} {fr lo : Nat} {Q : State → Prop} {cs sl pc : Nat} {ls : List (Nat × Value)} {st : List Value} {v : zV} (F : zF x G cc nL own fr lo) {i idx : Nat} (hT : zty G i 1 3) (hlink : Cond.fieldLink own idx "ContraryChairs$Company" "tally" "[I" ∈ zTbl) (hd : decode cc pc = .ok (.getfield idx, 3)) (kk : zJ x G nL Q cs sl (pc + 3) ls (zr G (zrf i 2) :: st) v) : zJ x G nL Q cs sl pc ls (zr G i :: st) v := z_getR F (c := 3) (C := RX3) (T := TX3) (N := 3) rfl uw_3 2 (by decide) (by decide +kernel) (by decide +kernel) hT hlink hd kk
theorem tc_3_2 : zchk 3 2 2 0 = true := by decide +kernel
theorem uw_4 : ∀ w ∈ u_ws RX4 TX4 13, w ∈ zTbl := by decide +kernel
theorem zg_4_0 {x : zCx} {G : zG} {cc : ByteArray} {nL : Nat} {own : String} {fr lo : Nat} {Q : State → Prop} {cs sl pc : Nat} {ls : List (Nat × Value)} {st : List Value} {v : zV} (F : zF x G cc nL own fr lo) {i idx : Nat} (hT : zty G i 1 4) (hlink : Cond.fieldLink own idx "ContraryChairs$Foresight" "academy" "LContraryChairs$Academy;" ∈ zTbl) (hd : decode cc pc = .ok (.getfield idx, 3)) (kk : zJ x G nL Q cs sl (pc + 3) ls (zr G (zrf i 0) :: st) v) : zJ x G nL Q cs sl pc ls (zr G i :: st) v := z_getR F (c := 4) (C := RX4) (T := TX4) (N := 13) rfl uw_4 0 (by decide) (by decide +kernel) (by decide +kernel) hT hlink hd kk
theorem tc_4_0 : zchk 4 0 1 0 = true := by decide +kernel
theorem zg_4_1 {x : zCx} {G : zG} {cc : ByteArray} {nL : Nat} {own : String} {fr lo : Nat} {Q : State → Prop} {cs sl pc : Nat} {ls : List (Nat × Value)} {st : List Value} {v : zV} (F : zF x G cc nL own fr lo) {i idx : Nat} (hT : zty G i 1 4) (hlink : Cond.fieldLink own idx "ContraryChairs$Foresight" "calendar" "LContraryChairs$Calendar;" ∈ zTbl) (hd : decode cc pc = .ok (.getfield idx, 3)) (kk : zJ x G nL Q cs sl (pc + 3) ls (zr G (zrf i 1) :: st) v) : zJ x G nL Q cs sl pc ls (zr G i :: st) v := z_getR F (c := 4) (C := RX4) (T := TX4) (N := 13) rfl uw_4 1 (by decide) (by decide +kernel) (by decide +kernel) hT hlink hd kk
theorem tc_4_1 : zchk 4 1 1 2 = true := by decide +kernel
theorem zg_4_2 {x : zCx} {G : zG} {cc : ByteArray} {nL : Nat} {own : String} {fr lo : Nat} {Q : State → Prop} {cs sl pc : Nat} {ls : List (Nat × Value)} {st : List Value} {v : zV} (F : zF x G cc nL own fr lo) {i idx : Nat} (hT : zty G i 1 4) (hlink : Cond.fieldLink own idx "ContraryChairs$Foresight" "now" "LContraryChairs$Row;" ∈ zTbl) (hd : decode cc pc = .ok (.getfield idx, 3)) (kk : zJ x G nL Q cs sl (pc + 3) ls (zr G (zrf i 2) :: st) v) : zJ x G nL Q cs sl pc ls (zr G i :: st) v := z_getR F (c := 4) (C := RX4) (T := TX4) (N := 13) rfl uw_4 2 (by decide) (by decide +kernel) (by decide +kernel) hT hlink hd kk
theorem tc_4_2 : zchk 4 2 1 7 = true := by decide +kernel
theorem zg_4_3 {x : zCx} {G : zG} {cc : ByteArray} {nL : Nat} {own : String} {fr lo : Nat} {Q : State → Prop} {cs sl pc : Nat} {ls : List (Nat × Value)} {st : List Value} {v : zV} (F : zF x G cc nL own fr lo) {i idx : Nat} (hT : zty G i 1 4) (hlink : Cond.fieldLink own idx "ContraryChairs$Foresight" "trial" "LContraryChairs$Row;" ∈ zTbl) (hd : decode cc pc = .ok (.getfield idx, 3)) (kk : zJ x G nL Q cs sl (pc + 3) ls (zr G (zrf i 3) :: st) v) : zJ x G nL Q cs sl pc ls (zr G i :: st) v := z_getR F (c := 4) (C := RX4) (T := TX4) (N := 13) rfl uw_4 3 (by decide) (by decide +kernel) (by decide +kernel) hT hlink hd kk
theorem tc_4_3 : zchk 4 3 1 7 = true := by decide +kernel
theorem zg_4_4 {x : zCx} {G : zG} {cc : ByteArray} {nL : Nat} {own : String} {fr lo : Nat} {Q : State → Prop} {cs sl pc : Nat} {ls : List (Nat × Value)} {st : List Value} {v : zV} (F : zF x G cc nL own fr lo) {i idx : Nat} (hT : zty G i 1 4) (hlink : Cond.fieldLink own idx "ContraryChairs$Foresight" "stages" "[LContraryChairs$Row;" ∈ zTbl) (hd : decode cc pc = .ok (.getfield idx, 3)) (kk : zJ x G nL Q cs sl (pc + 3) ls (zr G (zrf i 4) :: st) v) : zJ x G nL Q cs sl pc ls (zr G i :: st) v := z_getR F (c := 4) (C := RX4) (T := TX4) (N := 13) rfl uw_4 4 (by decide) (by decide +kernel) (by decide +kernel) hT hlink hd kk
theorem tc_4_4 : zchk 4 4 2 4 = true := by decide +kernel
theorem zg_4_5 {x : zCx} {G : zG} {cc : ByteArray} {nL : Nat} {own : String} {fr lo : Nat} {Q : State → Prop} {cs sl pc : Nat} {ls : List (Nat × Value)} {st : List Value} {v : zV} (F : zF x G cc nL own fr lo) {i idx : Nat} (hT : zty G i 1 4) (hlink : Cond.fieldLink own idx "ContraryChairs$Foresight" "outcomes" "[I" ∈ zTbl) (hd : decode cc pc = .ok (.getfield idx, 3)) (kk : zJ x G nL Q cs sl (pc + 3) ls (zr G (zrf i 5) :: st) v) : zJ x G nL Q cs sl pc ls (zr G i :: st) v := z_getR F (c := 4) (C := RX4) (T := TX4) (N := 13) rfl uw_4 5 (by decide) (by decide +kernel) (by decide +kernel) hT hlink hd kk
theorem tc_4_5 : zchk 4 5 2 0 = true := by decide +kernel
theorem zg_4_6 {x : zCx} {G : zG} {cc : ByteArray} {nL : Nat} {own : String} {fr lo : Nat} {Q : State → Prop} {cs sl pc : Nat} {ls : List (Nat × Value)} {st : List Value} {v : zV} (F : zF x G cc nL own fr lo) {i idx : Nat} (hT : zty G i 1 4) (hlink : Cond.fieldLink own idx "ContraryChairs$Foresight" "marked" "[I" ∈ zTbl) (hd : decode cc pc = .ok (.getfield idx, 3)) (kk : zJ x G nL Q cs sl (pc + 3) ls (zr G (zrf i 6) :: st) v) : zJ x G nL Q cs sl pc ls (zr G i :: st) v := z_getR F (c := 4) (C := RX4) (T := TX4) (N := 13) rfl uw_4 6 (by decide) (by decide +kernel) (by decide +kernel) hT hlink hd kk
theorem tc_4_6 : zchk 4 6 2 0 = true := by decide +kernel
theorem zg_4_7 {x : zCx} {G : zG} {cc : ByteArray} {nL : Nat} {own : String} {fr lo : Nat} {Q : State → Prop} {cs sl pc : Nat} {ls : List (Nat × Value)} {st : List Value} {v : zV} (F : zF x G cc nL own fr lo) {i idx : Nat} (hT : zty G i 1 4) (hlink : Cond.fieldLink own idx "ContraryChairs$Foresight" "choices" "[I" ∈ zTbl) (hd : decode cc pc = .ok (.getfield idx, 3)) (kk : zJ x G nL Q cs sl (pc + 3) ls (zr G (zrf i 7) :: st) v) : zJ x G nL Q cs sl pc ls (zr G i :: st) v := z_getR F (c := 4) (C := RX4) (T := TX4) (N := 13) rfl uw_4 7 (by decide) (by decide +kernel) (by decide +kernel) hT hlink hd kk
theorem tc_4_7 : zchk 4 7 2 0 = true := by decide +kernel
theorem zg_4_8 {x : zCx} {G : zG} {cc : ByteArray} {nL : Nat} {own : String} {fr lo : Nat} {Q : State → Prop} {cs sl pc : Nat} {ls : List (Nat × Value)} {st : List Value} {v : zV} (F : zF x G cc nL own fr lo) {i idx : Nat} (hT : zty G i 1 4) (hlink : Cond.fieldLink own idx "ContraryChairs$Foresight" "fewest" "I" ∈ zTbl) (hd : decode cc pc = .ok (.getfield idx, 3)) (kk : zJ x G nL Q cs sl (pc + 3) ls (.int (v i 8) :: st) v) : zJ x G nL Q cs sl pc ls (zr G i :: st) v := z_getI F (c := 4) (C := RX4) (T := TX4) (N := 13) rfl uw_4 8 (by decide) (by decide +kernel) (by decide +kernel) hT hlink hd kk
theorem zp_4_8 {x : zCx} {G : zG} {cc : ByteArray} {nL : Nat} {own : String} {fr lo : Nat} {Q : State → Prop} {cs sl pc : Nat} {ls : List (Nat × Value)} {st : List Value} {v : zV} (F : zF x G cc nL own fr lo) {i idx : Nat} {y : Int32} (hT : zty G i 1 4) (hlink : Cond.fieldLink own idx "ContraryChairs$Foresight" "fewest" "I" ∈ zTbl) (hd : decode cc pc = .ok (.putfield idx, 3)) (kk : zJ x G nL Q cs sl (pc + 3) ls st (zup v i 8 y)) : zJ x G nL Q cs sl pc ls (.int y :: zr G i :: st) v := z_putI F (c := 4) (C := RX4) (T := TX4) (N := 13) (ty := .int) tyX4 tyX4_ok nmX4 rfl uw_4 8 (by decide) (by decide +kernel) (by decide +kernel) rfl (by decide +kernel) rfl rfl hT hlink hd kk
theorem zg_4_9 {x : zCx} {G : zG} {cc : ByteArray} {nL : Nat} {own : String} {fr lo : Nat} {Q : State → Prop} {cs sl pc : Nat} {ls : List (Nat × Value)} {st : List Value} {v : zV} (F : zF x G cc nL own fr lo) {i idx : Nat} (hT : zty G i 1 4) (hlink : Cond.fieldLink own idx "ContraryChairs$Foresight" "firstWay" "I" ∈ zTbl) (hd : decode cc pc = .ok (.getfield idx, 3)) (kk : zJ x G nL Q cs sl (pc + 3) ls (.int (v i 9) :: st) v) : zJ x G nL Q cs sl pc ls (zr G i :: st) v := z_getI F (c := 4) (C := RX4) (T := TX4) (N := 13) rfl uw_4 9 (by decide) (by decide +kernel) (by decide +kernel) hT hlink hd kk
theorem zp_4_9 {x : zCx} {G : zG} {cc : ByteArray} {nL : Nat} {own : String} {fr lo : Nat} {Q : State → Prop} {cs sl pc : Nat} {ls : List (Nat × Value)} {st : List Value} {v : zV} (F : zF x G cc nL own fr lo) {i idx : Nat} {y : Int32} (hT : zty G i 1 4) (hlink : Cond.fieldLink own idx "ContraryChairs$Foresight" "firstWay" "I" ∈ zTbl) (hd : decode cc pc = .ok (.putfield idx, 3)) (kk : zJ x G nL Q cs sl (pc + 3) ls st (zup v i 9 y)) : zJ x G nL Q cs sl pc ls (.int y :: zr G i :: st) v := z_putI F (c := 4) (C := RX4) (T := TX4) (N := 13) (ty := .int) tyX4 tyX4_ok nmX4 rfl uw_4 9 (by decide) (by decide +kernel) (by decide +kernel) rfl (by decide +kernel) rfl rfl hT hlink hd kk
theorem zg_4_10 {x : zCx} {G : zG} {cc : ByteArray} {nL : Nat} {own : String} {fr lo : Nat} {Q : State → Prop} {cs sl pc : Nat} {ls : List (Nat × Value)} {st : List Value} {v : zV} (F : zF x G cc nL own fr lo) {i idx : Nat} (hT : zty G i 1 4) (hlink : Cond.fieldLink own idx "ContraryChairs$Foresight" "fewestSat" "I" ∈ zTbl) (hd : decode cc pc = .ok (.getfield idx, 3)) (kk : zJ x G nL Q cs sl (pc + 3) ls (.int (v i 10) :: st) v) : zJ x G nL Q cs sl pc ls (zr G i :: st) v := z_getI F (c := 4) (C := RX4) (T := TX4) (N := 13) rfl uw_4 10 (by decide) (by decide +kernel) (by decide +kernel) hT hlink hd kk
theorem zp_4_10 {x : zCx} {G : zG} {cc : ByteArray} {nL : Nat} {own : String} {fr lo : Nat} {Q : State → Prop} {cs sl pc : Nat} {ls : List (Nat × Value)} {st : List Value} {v : zV} (F : zF x G cc nL own fr lo) {i idx : Nat} {y : Int32} (hT : zty G i 1 4) (hlink : Cond.fieldLink own idx "ContraryChairs$Foresight" "fewestSat" "I" ∈ zTbl) (hd : decode cc pc = .ok (.putfield idx, 3)) (kk : zJ x G nL Q cs sl (pc + 3) ls st (zup v i 10 y)) : zJ x G nL Q cs sl pc ls (.int y :: zr G i :: st) v := z_putI F (c := 4) (C := RX4) (T := TX4) (N := 13) (ty := .int) tyX4 tyX4_ok nmX4 rfl uw_4 10 (by decide) (by decide +kernel) (by decide +kernel) rfl (by decide +kernel) rfl rfl hT hlink hd kk
theorem zg_4_11 {x : zCx} {G : zG} {cc : ByteArray} {nL : Nat} {own : String} {fr lo : Nat} {Q : State → Prop} {cs sl pc : Nat} {ls : List (Nat × Value)} {st : List Value} {v : zV} (F : zF x G cc nL own fr lo) {i idx : Nat} (hT : zty G i 1 4) (hlink : Cond.fieldLink own idx "ContraryChairs$Foresight" "mostSat" "I" ∈ zTbl) (hd : decode cc pc = .ok (.getfield idx, 3)) (kk : zJ x G nL Q cs sl (pc + 3) ls (.int (v i 11) :: st) v) : zJ x G nL Q cs sl pc ls (zr G i :: st) v := z_getI F (c := 4) (C := RX4) (T := TX4) (N := 13) rfl uw_4 11 (by decide) (by decide +kernel) (by decide +kernel) hT hlink hd kk
theorem zp_4_11 {x : zCx} {G : zG} {cc : ByteArray} {nL : Nat} {own : String} {fr lo : Nat} {Q : State → Prop} {cs sl pc : Nat} {ls : List (Nat × Value)} {st : List Value} {v : zV} (F : zF x G cc nL own fr lo) {i idx : Nat} {y : Int32} (hT : zty G i 1 4) (hlink : Cond.fieldLink own idx "ContraryChairs$Foresight" "mostSat" "I" ∈ zTbl) (hd : decode cc pc = .ok (.putfield idx, 3)) (kk : zJ x G nL Q cs sl (pc + 3) ls st (zup v i 11 y)) : zJ x G nL Q cs sl pc ls (.int y :: zr G i :: st) v := z_putI F (c := 4) (C := RX4) (T := TX4) (N := 13) (ty := .int) tyX4 tyX4_ok nmX4 rfl uw_4 11 (by decide) (by decide +kernel) (by decide +kernel) rfl (by decide +kernel) rfl rfl hT hlink hd kk
theorem zg_4_12 {x : zCx} {G : zG} {cc : ByteArray} {nL : Nat} {own : String} {fr lo : Nat} {Q : State → Prop} {cs sl pc : Nat} {ls : List (Nat × Value)} {st : List Value} {v : zV} (F : zF x G cc nL own fr lo) {i idx : Nat} (hT : zty G i 1 4) (hlink : Cond.fieldLink own idx "ContraryChairs$Foresight" "sittings" "I" ∈ zTbl) (hd : decode cc pc = .ok (.getfield idx, 3)) (kk : zJ x G nL Q cs sl (pc + 3) ls (.int (v i 12) :: st) v) : zJ x G nL Q cs sl pc ls (zr G i :: st) v := z_getI F (c := 4) (C := RX4) (T := TX4) (N := 13) rfl uw_4 12 (by decide) (by decide +kernel) (by decide +kernel) hT hlink hd kk
theorem zp_4_12 {x : zCx} {G : zG} {cc : ByteArray} {nL : Nat} {own : String} {fr lo : Nat} {Q : State → Prop} {cs sl pc : Nat} {ls : List (Nat × Value)} {st : List Value} {v : zV} (F : zF x G cc nL own fr lo) {i idx : Nat} {y : Int32} (hT : zty G i 1 4) (hlink : Cond.fieldLink own idx "ContraryChairs$Foresight" "sittings" "I" ∈ zTbl) (hd : decode cc pc = .ok (.putfield idx, 3)) (kk : zJ x G nL Q cs sl (pc + 3) ls st (zup v i 12 y)) : zJ x G nL Q cs sl pc ls (.int y :: zr G i :: st) v := z_putI F (c := 4) (C := RX4) (T := TX4) (N := 13) (ty := .int) tyX4 tyX4_ok nmX4 rfl uw_4 12 (by decide) (by decide +kernel) (by decide +kernel) rfl (by decide +kernel) rfl rfl hT hlink hd kk
theorem uw_5 : ∀ w ∈ u_ws RX5 TX5 4, w ∈ zTbl := by decide +kernel
theorem zg_5_0 {x : zCx} {G : zG} {cc : ByteArray} {nL : Nat} {own : String} {fr lo : Nat} {Q : State → Prop} {cs sl pc : Nat} {ls : List (Nat × Value)} {st : List Value} {v : zV} (F : zF x G cc nL own fr lo) {i idx : Nat} (hT : zty G i 1 5) (hlink : Cond.fieldLink own idx "ContraryChairs$Law" "steps" "[I" ∈ zTbl) (hd : decode cc pc = .ok (.getfield idx, 3)) (kk : zJ x G nL Q cs sl (pc + 3) ls (zr G (zrf i 0) :: st) v) : zJ x G nL Q cs sl pc ls (zr G i :: st) v := z_getR F (c := 5) (C := RX5) (T := TX5) (N := 4) rfl uw_5 0 (by decide) (by decide +kernel) (by decide +kernel) hT hlink hd kk
theorem tc_5_0 : zchk 5 0 2 0 = true := by decide +kernel
theorem zg_5_1 {x : zCx} {G : zG} {cc : ByteArray} {nL : Nat} {own : String} {fr lo : Nat} {Q : State → Prop} {cs sl pc : Nat} {ls : List (Nat × Value)} {st : List Value} {v : zV} (F : zF x G cc nL own fr lo) {i idx : Nat} (hT : zty G i 1 5) (hlink : Cond.fieldLink own idx "ContraryChairs$Law" "values" "[I" ∈ zTbl) (hd : decode cc pc = .ok (.getfield idx, 3)) (kk : zJ x G nL Q cs sl (pc + 3) ls (zr G (zrf i 1) :: st) v) : zJ x G nL Q cs sl pc ls (zr G i :: st) v := z_getR F (c := 5) (C := RX5) (T := TX5) (N := 4) rfl uw_5 1 (by decide) (by decide +kernel) (by decide +kernel) hT hlink hd kk
theorem tc_5_1 : zchk 5 1 2 0 = true := by decide +kernel
theorem zg_5_2 {x : zCx} {G : zG} {cc : ByteArray} {nL : Nat} {own : String} {fr lo : Nat} {Q : State → Prop} {cs sl pc : Nat} {ls : List (Nat × Value)} {st : List Value} {v : zV} (F : zF x G cc nL own fr lo) {i idx : Nat} (hT : zty G i 1 5) (hlink : Cond.fieldLink own idx "ContraryChairs$Law" "facts" "[I" ∈ zTbl) (hd : decode cc pc = .ok (.getfield idx, 3)) (kk : zJ x G nL Q cs sl (pc + 3) ls (zr G (zrf i 2) :: st) v) : zJ x G nL Q cs sl pc ls (zr G i :: st) v := z_getR F (c := 5) (C := RX5) (T := TX5) (N := 4) rfl uw_5 2 (by decide) (by decide +kernel) (by decide +kernel) hT hlink hd kk
theorem tc_5_2 : zchk 5 2 2 0 = true := by decide +kernel
theorem zg_5_3 {x : zCx} {G : zG} {cc : ByteArray} {nL : Nat} {own : String} {fr lo : Nat} {Q : State → Prop} {cs sl pc : Nat} {ls : List (Nat × Value)} {st : List Value} {v : zV} (F : zF x G cc nL own fr lo) {i idx : Nat} (hT : zty G i 1 5) (hlink : Cond.fieldLink own idx "ContraryChairs$Law" "size" "I" ∈ zTbl) (hd : decode cc pc = .ok (.getfield idx, 3)) (kk : zJ x G nL Q cs sl (pc + 3) ls (.int (v i 3) :: st) v) : zJ x G nL Q cs sl pc ls (zr G i :: st) v := z_getI F (c := 5) (C := RX5) (T := TX5) (N := 4) rfl uw_5 3 (by decide) (by decide +kernel) (by decide +kernel) hT hlink hd kk
theorem zp_5_3 {x : zCx} {G : zG} {cc : ByteArray} {nL : Nat} {own : String} {fr lo : Nat} {Q : State → Prop} {cs sl pc : Nat} {ls : List (Nat × Value)} {st : List Value} {v : zV} (F : zF x G cc nL own fr lo) {i idx : Nat} {y : Int32} (hT : zty G i 1 5) (hlink : Cond.fieldLink own idx "ContraryChairs$Law" "size" "I" ∈ zTbl) (hd : decode cc pc = .ok (.putfield idx, 3)) (kk : zJ x G nL Q cs sl (pc + 3) ls st (zup v i 3 y)) : zJ x G nL Q cs sl pc ls (.int y :: zr G i :: st) v := z_putI F (c := 5) (C := RX5) (T := TX5) (N := 4) (ty := .int) tyX5 tyX5_ok nmX5 rfl uw_5 3 (by decide) (by decide +kernel) (by decide +kernel) rfl (by decide +kernel) rfl rfl hT hlink hd kk
theorem uw_6 : ∀ w ∈ u_ws RX6 TX6 8, w ∈ zTbl := by decide +kernel
theorem zg_6_0 {x : zCx} {G : zG} {cc : ByteArray} {nL : Nat} {own : String} {fr lo : Nat} {Q : State → Prop} {cs sl pc : Nat} {ls : List (Nat × Value)} {st : List Value} {v : zV} (F : zF x G cc nL own fr lo) {i idx : Nat} (hT : zty G i 1 6) (hlink : Cond.fieldLink own idx "ContraryChairs$Records" "academy" "LContraryChairs$Academy;" ∈ zTbl) (hd : decode cc pc = .ok (.getfield idx, 3)) (kk : zJ x G nL Q cs sl (pc + 3) ls (zr G (zrf i 0) :: st) v) : zJ x G nL Q cs sl pc ls (zr G i :: st) v := z_getR F (c := 6) (C := RX6) (T := TX6) (N := 8) rfl uw_6 0 (by decide) (by decide +kernel) (by decide +kernel) hT hlink hd kk
theorem tc_6_0 : zchk 6 0 1 0 = true := by decide +kernel
theorem zg_6_1 {x : zCx} {G : zG} {cc : ByteArray} {nL : Nat} {own : String} {fr lo : Nat} {Q : State → Prop} {cs sl pc : Nat} {ls : List (Nat × Value)} {st : List Value} {v : zV} (F : zF x G cc nL own fr lo) {i idx : Nat} (hT : zty G i 1 6) (hlink : Cond.fieldLink own idx "ContraryChairs$Records" "book" "LContraryChairs$Book;" ∈ zTbl) (hd : decode cc pc = .ok (.getfield idx, 3)) (kk : zJ x G nL Q cs sl (pc + 3) ls (zr G (zrf i 1) :: st) v) : zJ x G nL Q cs sl pc ls (zr G i :: st) v := z_getR F (c := 6) (C := RX6) (T := TX6) (N := 8) rfl uw_6 1 (by decide) (by decide +kernel) (by decide +kernel) hT hlink hd kk
theorem tc_6_1 : zchk 6 1 1 1 = true := by decide +kernel
theorem zg_6_2 {x : zCx} {G : zG} {cc : ByteArray} {nL : Nat} {own : String} {fr lo : Nat} {Q : State → Prop} {cs sl pc : Nat} {ls : List (Nat × Value)} {st : List Value} {v : zV} (F : zF x G cc nL own fr lo) {i idx : Nat} (hT : zty G i 1 6) (hlink : Cond.fieldLink own idx "ContraryChairs$Records" "calendar" "LContraryChairs$Calendar;" ∈ zTbl) (hd : decode cc pc = .ok (.getfield idx, 3)) (kk : zJ x G nL Q cs sl (pc + 3) ls (zr G (zrf i 2) :: st) v) : zJ x G nL Q cs sl pc ls (zr G i :: st) v := z_getR F (c := 6) (C := RX6) (T := TX6) (N := 8) rfl uw_6 2 (by decide) (by decide +kernel) (by decide +kernel) hT hlink hd kk
theorem tc_6_2 : zchk 6 2 1 2 = true := by decide +kernel
theorem zg_6_3 {x : zCx} {G : zG} {cc : ByteArray} {nL : Nat} {own : String} {fr lo : Nat} {Q : State → Prop} {cs sl pc : Nat} {ls : List (Nat × Value)} {st : List Value} {v : zV} (F : zF x G cc nL own fr lo) {i idx : Nat} (hT : zty G i 1 6) (hlink : Cond.fieldLink own idx "ContraryChairs$Records" "trial" "LContraryChairs$Row;" ∈ zTbl) (hd : decode cc pc = .ok (.getfield idx, 3)) (kk : zJ x G nL Q cs sl (pc + 3) ls (zr G (zrf i 3) :: st) v) : zJ x G nL Q cs sl pc ls (zr G i :: st) v := z_getR F (c := 6) (C := RX6) (T := TX6) (N := 8) rfl uw_6 3 (by decide) (by decide +kernel) (by decide +kernel) hT hlink hd kk
theorem tc_6_3 : zchk 6 3 1 7 = true := by decide +kernel
theorem zg_6_4 {x : zCx} {G : zG} {cc : ByteArray} {nL : Nat} {own : String} {fr lo : Nat} {Q : State → Prop} {cs sl pc : Nat} {ls : List (Nat × Value)} {st : List Value} {v : zV} (F : zF x G cc nL own fr lo) {i idx : Nat} (hT : zty G i 1 6) (hlink : Cond.fieldLink own idx "ContraryChairs$Records" "takenIn" "[I" ∈ zTbl) (hd : decode cc pc = .ok (.getfield idx, 3)) (kk : zJ x G nL Q cs sl (pc + 3) ls (zr G (zrf i 4) :: st) v) : zJ x G nL Q cs sl pc ls (zr G i :: st) v := z_getR F (c := 6) (C := RX6) (T := TX6) (N := 8) rfl uw_6 4 (by decide) (by decide +kernel) (by decide +kernel) hT hlink hd kk
theorem tc_6_4 : zchk 6 4 2 0 = true := by decide +kernel
theorem zg_6_5 {x : zCx} {G : zG} {cc : ByteArray} {nL : Nat} {own : String} {fr lo : Nat} {Q : State → Prop} {cs sl pc : Nat} {ls : List (Nat × Value)} {st : List Value} {v : zV} (F : zF x G cc nL own fr lo) {i idx : Nat} (hT : zty G i 1 6) (hlink : Cond.fieldLink own idx "ContraryChairs$Records" "sidesSeen" "[I" ∈ zTbl) (hd : decode cc pc = .ok (.getfield idx, 3)) (kk : zJ x G nL Q cs sl (pc + 3) ls (zr G (zrf i 5) :: st) v) : zJ x G nL Q cs sl pc ls (zr G i :: st) v := z_getR F (c := 6) (C := RX6) (T := TX6) (N := 8) rfl uw_6 5 (by decide) (by decide +kernel) (by decide +kernel) hT hlink hd kk
theorem tc_6_5 : zchk 6 5 2 0 = true := by decide +kernel
theorem zg_6_6 {x : zCx} {G : zG} {cc : ByteArray} {nL : Nat} {own : String} {fr lo : Nat} {Q : State → Prop} {cs sl pc : Nat} {ls : List (Nat × Value)} {st : List Value} {v : zV} (F : zF x G cc nL own fr lo) {i idx : Nat} (hT : zty G i 1 6) (hlink : Cond.fieldLink own idx "ContraryChairs$Records" "ways" "I" ∈ zTbl) (hd : decode cc pc = .ok (.getfield idx, 3)) (kk : zJ x G nL Q cs sl (pc + 3) ls (.int (v i 6) :: st) v) : zJ x G nL Q cs sl pc ls (zr G i :: st) v := z_getI F (c := 6) (C := RX6) (T := TX6) (N := 8) rfl uw_6 6 (by decide) (by decide +kernel) (by decide +kernel) hT hlink hd kk
theorem zp_6_6 {x : zCx} {G : zG} {cc : ByteArray} {nL : Nat} {own : String} {fr lo : Nat} {Q : State → Prop} {cs sl pc : Nat} {ls : List (Nat × Value)} {st : List Value} {v : zV} (F : zF x G cc nL own fr lo) {i idx : Nat} {y : Int32} (hT : zty G i 1 6) (hlink : Cond.fieldLink own idx "ContraryChairs$Records" "ways" "I" ∈ zTbl) (hd : decode cc pc = .ok (.putfield idx, 3)) (kk : zJ x G nL Q cs sl (pc + 3) ls st (zup v i 6 y)) : zJ x G nL Q cs sl pc ls (.int y :: zr G i :: st) v := z_putI F (c := 6) (C := RX6) (T := TX6) (N := 8) (ty := .int) tyX6 tyX6_ok nmX6 rfl uw_6 6 (by decide) (by decide +kernel) (by decide +kernel) rfl (by decide +kernel) rfl rfl hT hlink hd kk
theorem zg_6_7 {x : zCx} {G : zG} {cc : ByteArray} {nL : Nat} {own : String} {fr lo : Nat} {Q : State → Prop} {cs sl pc : Nat} {ls : List (Nat × Value)} {st : List Value} {v : zV} (F : zF x G cc nL own fr lo) {i idx : Nat} (hT : zty G i 1 6) (hlink : Cond.fieldLink own idx "ContraryChairs$Records" "firstWay" "I" ∈ zTbl) (hd : decode cc pc = .ok (.getfield idx, 3)) (kk : zJ x G nL Q cs sl (pc + 3) ls (.int (v i 7) :: st) v) : zJ x G nL Q cs sl pc ls (zr G i :: st) v := z_getI F (c := 6) (C := RX6) (T := TX6) (N := 8) rfl uw_6 7 (by decide) (by decide +kernel) (by decide +kernel) hT hlink hd kk
theorem zp_6_7 {x : zCx} {G : zG} {cc : ByteArray} {nL : Nat} {own : String} {fr lo : Nat} {Q : State → Prop} {cs sl pc : Nat} {ls : List (Nat × Value)} {st : List Value} {v : zV} (F : zF x G cc nL own fr lo) {i idx : Nat} {y : Int32} (hT : zty G i 1 6) (hlink : Cond.fieldLink own idx "ContraryChairs$Records" "firstWay" "I" ∈ zTbl) (hd : decode cc pc = .ok (.putfield idx, 3)) (kk : zJ x G nL Q cs sl (pc + 3) ls st (zup v i 7 y)) : zJ x G nL Q cs sl pc ls (.int y :: zr G i :: st) v := z_putI F (c := 6) (C := RX6) (T := TX6) (N := 8) (ty := .int) tyX6 tyX6_ok nmX6 rfl uw_6 7 (by decide) (by decide +kernel) (by decide +kernel) rfl (by decide +kernel) rfl rfl hT hlink hd kk
theorem uw_7 : ∀ w ∈ u_ws RX7 TX7 13, w ∈ zTbl := by decide +kernel
theorem zg_7_0 {x : zCx} {G : zG} {cc : ByteArray} {nL : Nat} {own : String} {fr lo : Nat} {Q : State → Prop} {cs sl pc : Nat} {ls : List (Nat × Value)} {st : List Value} {v : zV} (F : zF x G cc nL own fr lo) {i idx : Nat} (hT : zty G i 1 7) (hlink : Cond.fieldLink own idx "ContraryChairs$Row" "year" "I" ∈ zTbl) (hd : decode cc pc = .ok (.getfield idx, 3)) (kk : zJ x G nL Q cs sl (pc + 3) ls (.int (v i 0) :: st) v) : zJ x G nL Q cs sl pc ls (zr G i :: st) v := z_getI F (c := 7) (C := RX7) (T := TX7) (N := 13) rfl uw_7 0 (by decide) (by decide +kernel) (by decide +kernel) hT hlink hd kk
theorem zp_7_0 {x : zCx} {G : zG} {cc : ByteArray} {nL : Nat} {own : String} {fr lo : Nat} {Q : State → Prop} {cs sl pc : Nat} {ls : List (Nat × Value)} {st : List Value} {v : zV} (F : zF x G cc nL own fr lo) {i idx : Nat} {y : Int32} (hT : zty G i 1 7) (hlink : Cond.fieldLink own idx "ContraryChairs$Row" "year" "I" ∈ zTbl) (hd : decode cc pc = .ok (.putfield idx, 3)) (kk : zJ x G nL Q cs sl (pc + 3) ls st (zup v i 0 y)) : zJ x G nL Q cs sl pc ls (.int y :: zr G i :: st) v := z_putI F (c := 7) (C := RX7) (T := TX7) (N := 13) (ty := .int) tyX7 tyX7_ok nmX7 rfl uw_7 0 (by decide) (by decide +kernel) (by decide +kernel) rfl (by decide +kernel) rfl rfl hT hlink hd kk
theorem zg_7_1 {x : zCx} {G : zG} {cc : ByteArray} {nL : Nat} {own : String} {fr lo : Nat} {Q : State → Prop} {cs sl pc : Nat} {ls : List (Nat × Value)} {st : List Value} {v : zV} (F : zF x G cc nL own fr lo) {i idx : Nat} (hT : zty G i 1 7) (hlink : Cond.fieldLink own idx "ContraryChairs$Row" "sat" "I" ∈ zTbl) (hd : decode cc pc = .ok (.getfield idx, 3)) (kk : zJ x G nL Q cs sl (pc + 3) ls (.int (v i 1) :: st) v) : zJ x G nL Q cs sl pc ls (zr G i :: st) v := z_getI F (c := 7) (C := RX7) (T := TX7) (N := 13) rfl uw_7 1 (by decide) (by decide +kernel) (by decide +kernel) hT hlink hd kk
theorem zp_7_1 {x : zCx} {G : zG} {cc : ByteArray} {nL : Nat} {own : String} {fr lo : Nat} {Q : State → Prop} {cs sl pc : Nat} {ls : List (Nat × Value)} {st : List Value} {v : zV} (F : zF x G cc nL own fr lo) {i idx : Nat} {y : Int32} (hT : zty G i 1 7) (hlink : Cond.fieldLink own idx "ContraryChairs$Row" "sat" "I" ∈ zTbl) (hd : decode cc pc = .ok (.putfield idx, 3)) (kk : zJ x G nL Q cs sl (pc + 3) ls st (zup v i 1 y)) : zJ x G nL Q cs sl pc ls (.int y :: zr G i :: st) v := z_putI F (c := 7) (C := RX7) (T := TX7) (N := 13) (ty := .int) tyX7 tyX7_ok nmX7 rfl uw_7 1 (by decide) (by decide +kernel) (by decide +kernel) rfl (by decide +kernel) rfl rfl hT hlink hd kk
theorem zg_7_2 {x : zCx} {G : zG} {cc : ByteArray} {nL : Nat} {own : String} {fr lo : Nat} {Q : State → Prop} {cs sl pc : Nat} {ls : List (Nat × Value)} {st : List Value} {v : zV} (F : zF x G cc nL own fr lo) {i idx : Nat} (hT : zty G i 1 7) (hlink : Cond.fieldLink own idx "ContraryChairs$Row" "voids" "I" ∈ zTbl) (hd : decode cc pc = .ok (.getfield idx, 3)) (kk : zJ x G nL Q cs sl (pc + 3) ls (.int (v i 2) :: st) v) : zJ x G nL Q cs sl pc ls (zr G i :: st) v := z_getI F (c := 7) (C := RX7) (T := TX7) (N := 13) rfl uw_7 2 (by decide) (by decide +kernel) (by decide +kernel) hT hlink hd kk
theorem zp_7_2 {x : zCx} {G : zG} {cc : ByteArray} {nL : Nat} {own : String} {fr lo : Nat} {Q : State → Prop} {cs sl pc : Nat} {ls : List (Nat × Value)} {st : List Value} {v : zV} (F : zF x G cc nL own fr lo) {i idx : Nat} {y : Int32} (hT : zty G i 1 7) (hlink : Cond.fieldLink own idx "ContraryChairs$Row" "voids" "I" ∈ zTbl) (hd : decode cc pc = .ok (.putfield idx, 3)) (kk : zJ x G nL Q cs sl (pc + 3) ls st (zup v i 2 y)) : zJ x G nL Q cs sl pc ls (.int y :: zr G i :: st) v := z_putI F (c := 7) (C := RX7) (T := TX7) (N := 13) (ty := .int) tyX7 tyX7_ok nmX7 rfl uw_7 2 (by decide) (by decide +kernel) (by decide +kernel) rfl (by decide +kernel) rfl rfl hT hlink hd kk
theorem zg_7_3 {x : zCx} {G : zG} {cc : ByteArray} {nL : Nat} {own : String} {fr lo : Nat} {Q : State → Prop} {cs sl pc : Nat} {ls : List (Nat × Value)} {st : List Value} {v : zV} (F : zF x G cc nL own fr lo) {i idx : Nat} (hT : zty G i 1 7) (hlink : Cond.fieldLink own idx "ContraryChairs$Row" "entered" "I" ∈ zTbl) (hd : decode cc pc = .ok (.getfield idx, 3)) (kk : zJ x G nL Q cs sl (pc + 3) ls (.int (v i 3) :: st) v) : zJ x G nL Q cs sl pc ls (zr G i :: st) v := z_getI F (c := 7) (C := RX7) (T := TX7) (N := 13) rfl uw_7 3 (by decide) (by decide +kernel) (by decide +kernel) hT hlink hd kk
theorem zp_7_3 {x : zCx} {G : zG} {cc : ByteArray} {nL : Nat} {own : String} {fr lo : Nat} {Q : State → Prop} {cs sl pc : Nat} {ls : List (Nat × Value)} {st : List Value} {v : zV} (F : zF x G cc nL own fr lo) {i idx : Nat} {y : Int32} (hT : zty G i 1 7) (hlink : Cond.fieldLink own idx "ContraryChairs$Row" "entered" "I" ∈ zTbl) (hd : decode cc pc = .ok (.putfield idx, 3)) (kk : zJ x G nL Q cs sl (pc + 3) ls st (zup v i 3 y)) : zJ x G nL Q cs sl pc ls (.int y :: zr G i :: st) v := z_putI F (c := 7) (C := RX7) (T := TX7) (N := 13) (ty := .int) tyX7 tyX7_ok nmX7 rfl uw_7 3 (by decide) (by decide +kernel) (by decide +kernel) rfl (by decide +kernel) rfl rfl hT hlink hd kk
theorem zg_7_4 {x : zCx} {G : zG} {cc : ByteArray} {nL : Nat} {own : String} {fr lo : Nat} {Q : State → Prop} {cs sl pc : Nat} {ls : List (Nat × Value)} {st : List Value} {v : zV} (F : zF x G cc nL own fr lo) {i idx : Nat} (hT : zty G i 1 7) (hlink : Cond.fieldLink own idx "ContraryChairs$Row" "left" "I" ∈ zTbl) (hd : decode cc pc = .ok (.getfield idx, 3)) (kk : zJ x G nL Q cs sl (pc + 3) ls (.int (v i 4) :: st) v) : zJ x G nL Q cs sl pc ls (zr G i :: st) v := z_getI F (c := 7) (C := RX7) (T := TX7) (N := 13) rfl uw_7 4 (by decide) (by decide +kernel) (by decide +kernel) hT hlink hd kk
theorem zp_7_4 {x : zCx} {G : zG} {cc : ByteArray} {nL : Nat} {own : String} {fr lo : Nat} {Q : State → Prop} {cs sl pc : Nat} {ls : List (Nat × Value)} {st : List Value} {v : zV} (F : zF x G cc nL own fr lo) {i idx : Nat} {y : Int32} (hT : zty G i 1 7) (hlink : Cond.fieldLink own idx "ContraryChairs$Row" "left" "I" ∈ zTbl) (hd : decode cc pc = .ok (.putfield idx, 3)) (kk : zJ x G nL Q cs sl (pc + 3) ls st (zup v i 4 y)) : zJ x G nL Q cs sl pc ls (.int y :: zr G i :: st) v := z_putI F (c := 7) (C := RX7) (T := TX7) (N := 13) (ty := .int) tyX7 tyX7_ok nmX7 rfl uw_7 4 (by decide) (by decide +kernel) (by decide +kernel) rfl (by decide +kernel) rfl rfl hT hlink hd kk
theorem zg_7_5 {x : zCx} {G : zG} {cc : ByteArray} {nL : Nat} {own : String} {fr lo : Nat} {Q : State → Prop} {cs sl pc : Nat} {ls : List (Nat × Value)} {st : List Value} {v : zV} (F : zF x G cc nL own fr lo) {i idx : Nat} (hT : zty G i 1 7) (hlink : Cond.fieldLink own idx "ContraryChairs$Row" "died" "I" ∈ zTbl) (hd : decode cc pc = .ok (.getfield idx, 3)) (kk : zJ x G nL Q cs sl (pc + 3) ls (.int (v i 5) :: st) v) : zJ x G nL Q cs sl pc ls (zr G i :: st) v := z_getI F (c := 7) (C := RX7) (T := TX7) (N := 13) rfl uw_7 5 (by decide) (by decide +kernel) (by decide +kernel) hT hlink hd kk
theorem zp_7_5 {x : zCx} {G : zG} {cc : ByteArray} {nL : Nat} {own : String} {fr lo : Nat} {Q : State → Prop} {cs sl pc : Nat} {ls : List (Nat × Value)} {st : List Value} {v : zV} (F : zF x G cc nL own fr lo) {i idx : Nat} {y : Int32} (hT : zty G i 1 7) (hlink : Cond.fieldLink own idx "ContraryChairs$Row" "died" "I" ∈ zTbl) (hd : decode cc pc = .ok (.putfield idx, 3)) (kk : zJ x G nL Q cs sl (pc + 3) ls st (zup v i 5 y)) : zJ x G nL Q cs sl pc ls (.int y :: zr G i :: st) v := z_putI F (c := 7) (C := RX7) (T := TX7) (N := 13) (ty := .int) tyX7 tyX7_ok nmX7 rfl uw_7 5 (by decide) (by decide +kernel) (by decide +kernel) rfl (by decide +kernel) rfl rfl hT hlink hd kk
theorem zg_7_6 {x : zCx} {G : zG} {cc : ByteArray} {nL : Nat} {own : String} {fr lo : Nat} {Q : State → Prop} {cs sl pc : Nat} {ls : List (Nat × Value)} {st : List Value} {v : zV} (F : zF x G cc nL own fr lo) {i idx : Nat} (hT : zty G i 1 7) (hlink : Cond.fieldLink own idx "ContraryChairs$Row" "asides" "I" ∈ zTbl) (hd : decode cc pc = .ok (.getfield idx, 3)) (kk : zJ x G nL Q cs sl (pc + 3) ls (.int (v i 6) :: st) v) : zJ x G nL Q cs sl pc ls (zr G i :: st) v := z_getI F (c := 7) (C := RX7) (T := TX7) (N := 13) rfl uw_7 6 (by decide) (by decide +kernel) (by decide +kernel) hT hlink hd kk
theorem zp_7_6 {x : zCx} {G : zG} {cc : ByteArray} {nL : Nat} {own : String} {fr lo : Nat} {Q : State → Prop} {cs sl pc : Nat} {ls : List (Nat × Value)} {st : List Value} {v : zV} (F : zF x G cc nL own fr lo) {i idx : Nat} {y : Int32} (hT : zty G i 1 7) (hlink : Cond.fieldLink own idx "ContraryChairs$Row" "asides" "I" ∈ zTbl) (hd : decode cc pc = .ok (.putfield idx, 3)) (kk : zJ x G nL Q cs sl (pc + 3) ls st (zup v i 6 y)) : zJ x G nL Q cs sl pc ls (.int y :: zr G i :: st) v := z_putI F (c := 7) (C := RX7) (T := TX7) (N := 13) (ty := .int) tyX7 tyX7_ok nmX7 rfl uw_7 6 (by decide) (by decide +kernel) (by decide +kernel) rfl (by decide +kernel) rfl rfl hT hlink hd kk
theorem zg_7_7 {x : zCx} {G : zG} {cc : ByteArray} {nL : Nat} {own : String} {fr lo : Nat} {Q : State → Prop} {cs sl pc : Nat} {ls : List (Nat × Value)} {st : List Value} {v : zV} (F : zF x G cc nL own fr lo) {i idx : Nat} (hT : zty G i 1 7) (hlink : Cond.fieldLink own idx "ContraryChairs$Row" "asideYear" "I" ∈ zTbl) (hd : decode cc pc = .ok (.getfield idx, 3)) (kk : zJ x G nL Q cs sl (pc + 3) ls (.int (v i 7) :: st) v) : zJ x G nL Q cs sl pc ls (zr G i :: st) v := z_getI F (c := 7) (C := RX7) (T := TX7) (N := 13) rfl uw_7 7 (by decide) (by decide +kernel) (by decide +kernel) hT hlink hd kk
theorem zp_7_7 {x : zCx} {G : zG} {cc : ByteArray} {nL : Nat} {own : String} {fr lo : Nat} {Q : State → Prop} {cs sl pc : Nat} {ls : List (Nat × Value)} {st : List Value} {v : zV} (F : zF x G cc nL own fr lo) {i idx : Nat} {y : Int32} (hT : zty G i 1 7) (hlink : Cond.fieldLink own idx "ContraryChairs$Row" "asideYear" "I" ∈ zTbl) (hd : decode cc pc = .ok (.putfield idx, 3)) (kk : zJ x G nL Q cs sl (pc + 3) ls st (zup v i 7 y)) : zJ x G nL Q cs sl pc ls (.int y :: zr G i :: st) v := z_putI F (c := 7) (C := RX7) (T := TX7) (N := 13) (ty := .int) tyX7 tyX7_ok nmX7 rfl uw_7 7 (by decide) (by decide +kernel) (by decide +kernel) rfl (by decide +kernel) rfl rfl hT hlink hd kk
theorem zg_7_8 {x : zCx} {G : zG} {cc : ByteArray} {nL : Nat} {own : String} {fr lo : Nat} {Q : State → Prop} {cs sl pc : Nat} {ls : List (Nat × Value)} {st : List Value} {v : zV} (F : zF x G cc nL own fr lo) {i idx : Nat} (hT : zty G i 1 7) (hlink : Cond.fieldLink own idx "ContraryChairs$Row" "chairs" "[I" ∈ zTbl) (hd : decode cc pc = .ok (.getfield idx, 3)) (kk : zJ x G nL Q cs sl (pc + 3) ls (zr G (zrf i 8) :: st) v) : zJ x G nL Q cs sl pc ls (zr G i :: st) v := z_getR F (c := 7) (C := RX7) (T := TX7) (N := 13) rfl uw_7 8 (by decide) (by decide +kernel) (by decide +kernel) hT hlink hd kk
theorem tc_7_8 : zchk 7 8 2 0 = true := by decide +kernel
theorem zg_7_9 {x : zCx} {G : zG} {cc : ByteArray} {nL : Nat} {own : String} {fr lo : Nat} {Q : State → Prop} {cs sl pc : Nat} {ls : List (Nat × Value)} {st : List Value} {v : zV} (F : zF x G cc nL own fr lo) {i idx : Nat} (hT : zty G i 1 7) (hlink : Cond.fieldLink own idx "ContraryChairs$Row" "state" "[I" ∈ zTbl) (hd : decode cc pc = .ok (.getfield idx, 3)) (kk : zJ x G nL Q cs sl (pc + 3) ls (zr G (zrf i 9) :: st) v) : zJ x G nL Q cs sl pc ls (zr G i :: st) v := z_getR F (c := 7) (C := RX7) (T := TX7) (N := 13) rfl uw_7 9 (by decide) (by decide +kernel) (by decide +kernel) hT hlink hd kk
theorem tc_7_9 : zchk 7 9 2 0 = true := by decide +kernel
theorem zg_7_10 {x : zCx} {G : zG} {cc : ByteArray} {nL : Nat} {own : String} {fr lo : Nat} {Q : State → Prop} {cs sl pc : Nat} {ls : List (Nat × Value)} {st : List Value} {v : zV} (F : zF x G cc nL own fr lo) {i idx : Nat} (hT : zty G i 1 7) (hlink : Cond.fieldLink own idx "ContraryChairs$Row" "waits" "[I" ∈ zTbl) (hd : decode cc pc = .ok (.getfield idx, 3)) (kk : zJ x G nL Q cs sl (pc + 3) ls (zr G (zrf i 10) :: st) v) : zJ x G nL Q cs sl pc ls (zr G i :: st) v := z_getR F (c := 7) (C := RX7) (T := TX7) (N := 13) rfl uw_7 10 (by decide) (by decide +kernel) (by decide +kernel) hT hlink hd kk
theorem tc_7_10 : zchk 7 10 2 0 = true := by decide +kernel
theorem zg_7_11 {x : zCx} {G : zG} {cc : ByteArray} {nL : Nat} {own : String} {fr lo : Nat} {Q : State → Prop} {cs sl pc : Nat} {ls : List (Nat × Value)} {st : List Value} {v : zV} (F : zF x G cc nL own fr lo) {i idx : Nat} (hT : zty G i 1 7) (hlink : Cond.fieldLink own idx "ContraryChairs$Row" "since" "[I" ∈ zTbl) (hd : decode cc pc = .ok (.getfield idx, 3)) (kk : zJ x G nL Q cs sl (pc + 3) ls (zr G (zrf i 11) :: st) v) : zJ x G nL Q cs sl pc ls (zr G i :: st) v := z_getR F (c := 7) (C := RX7) (T := TX7) (N := 13) rfl uw_7 11 (by decide) (by decide +kernel) (by decide +kernel) hT hlink hd kk
theorem tc_7_11 : zchk 7 11 2 0 = true := by decide +kernel
theorem zg_7_12 {x : zCx} {G : zG} {cc : ByteArray} {nL : Nat} {own : String} {fr lo : Nat} {Q : State → Prop} {cs sl pc : Nat} {ls : List (Nat × Value)} {st : List Value} {v : zV} (F : zF x G cc nL own fr lo) {i idx : Nat} (hT : zty G i 1 7) (hlink : Cond.fieldLink own idx "ContraryChairs$Row" "aside" "[I" ∈ zTbl) (hd : decode cc pc = .ok (.getfield idx, 3)) (kk : zJ x G nL Q cs sl (pc + 3) ls (zr G (zrf i 12) :: st) v) : zJ x G nL Q cs sl pc ls (zr G i :: st) v := z_getR F (c := 7) (C := RX7) (T := TX7) (N := 13) rfl uw_7 12 (by decide) (by decide +kernel) (by decide +kernel) hT hlink hd kk
theorem tc_7_12 : zchk 7 12 2 0 = true := by decide +kernel
theorem uw_8 : ∀ w ∈ u_ws RX8 TX8 6, w ∈ zTbl := by decide +kernel
theorem zg_8_0 {x : zCx} {G : zG} {cc : ByteArray} {nL : Nat} {own : String} {fr lo : Nat} {Q : State → Prop} {cs sl pc : Nat} {ls : List (Nat × Value)} {st : List Value} {v : zV} (F : zF x G cc nL own fr lo) {i idx : Nat} (hT : zty G i 1 8) (hlink : Cond.fieldLink own idx "ContraryChairs$Tape" "bytes" "[B" ∈ zTbl) (hd : decode cc pc = .ok (.getfield idx, 3)) (kk : zJ x G nL Q cs sl (pc + 3) ls (zr G (zrf i 0) :: st) v) : zJ x G nL Q cs sl pc ls (zr G i :: st) v := z_getR F (c := 8) (C := RX8) (T := TX8) (N := 6) rfl uw_8 0 (by decide) (by decide +kernel) (by decide +kernel) hT hlink hd kk
theorem tc_8_0 : zchk 8 0 2 1 = true := by decide +kernel
theorem zg_8_1 {x : zCx} {G : zG} {cc : ByteArray} {nL : Nat} {own : String} {fr lo : Nat} {Q : State → Prop} {cs sl pc : Nat} {ls : List (Nat × Value)} {st : List Value} {v : zV} (F : zF x G cc nL own fr lo) {i idx : Nat} (hT : zty G i 1 8) (hlink : Cond.fieldLink own idx "ContraryChairs$Tape" "size" "I" ∈ zTbl) (hd : decode cc pc = .ok (.getfield idx, 3)) (kk : zJ x G nL Q cs sl (pc + 3) ls (.int (v i 1) :: st) v) : zJ x G nL Q cs sl pc ls (zr G i :: st) v := z_getI F (c := 8) (C := RX8) (T := TX8) (N := 6) rfl uw_8 1 (by decide) (by decide +kernel) (by decide +kernel) hT hlink hd kk
theorem zp_8_1 {x : zCx} {G : zG} {cc : ByteArray} {nL : Nat} {own : String} {fr lo : Nat} {Q : State → Prop} {cs sl pc : Nat} {ls : List (Nat × Value)} {st : List Value} {v : zV} (F : zF x G cc nL own fr lo) {i idx : Nat} {y : Int32} (hT : zty G i 1 8) (hlink : Cond.fieldLink own idx "ContraryChairs$Tape" "size" "I" ∈ zTbl) (hd : decode cc pc = .ok (.putfield idx, 3)) (kk : zJ x G nL Q cs sl (pc + 3) ls st (zup v i 1 y)) : zJ x G nL Q cs sl pc ls (.int y :: zr G i :: st) v := z_putI F (c := 8) (C := RX8) (T := TX8) (N := 6) (ty := .int) tyX8 tyX8_ok nmX8 rfl uw_8 1 (by decide) (by decide +kernel) (by decide +kernel) rfl (by decide +kernel) rfl rfl hT hlink hd kk
theorem zg_8_2 {x : zCx} {G : zG} {cc : ByteArray} {nL : Nat} {own : String} {fr lo : Nat} {Q : State → Prop} {cs sl pc : Nat} {ls : List (Nat × Value)} {st : List Value} {v : zV} (F : zF x G cc nL own fr lo) {i idx : Nat} (hT : zty G i 1 8) (hlink : Cond.fieldLink own idx "ContraryChairs$Tape" "fault" "I" ∈ zTbl) (hd : decode cc pc = .ok (.getfield idx, 3)) (kk : zJ x G nL Q cs sl (pc + 3) ls (.int (v i 2) :: st) v) : zJ x G nL Q cs sl pc ls (zr G i :: st) v := z_getI F (c := 8) (C := RX8) (T := TX8) (N := 6) rfl uw_8 2 (by decide) (by decide +kernel) (by decide +kernel) hT hlink hd kk
theorem zp_8_2 {x : zCx} {G : zG} {cc : ByteArray} {nL : Nat} {own : String} {fr lo : Nat} {Q : State → Prop} {cs sl pc : Nat} {ls : List (Nat × Value)} {st : List Value} {v : zV} (F : zF x G cc nL own fr lo) {i idx : Nat} {y : Int32} (hT : zty G i 1 8) (hlink : Cond.fieldLink own idx "ContraryChairs$Tape" "fault" "I" ∈ zTbl) (hd : decode cc pc = .ok (.putfield idx, 3)) (kk : zJ x G nL Q cs sl (pc + 3) ls st (zup v i 2 y)) : zJ x G nL Q cs sl pc ls (.int y :: zr G i :: st) v := z_putI F (c := 8) (C := RX8) (T := TX8) (N := 6) (ty := .int) tyX8 tyX8_ok nmX8 rfl uw_8 2 (by decide) (by decide +kernel) (by decide +kernel) rfl (by decide +kernel) rfl rfl hT hlink hd kk
theorem zg_8_3 {x : zCx} {G : zG} {cc : ByteArray} {nL : Nat} {own : String} {fr lo : Nat} {Q : State → Prop} {cs sl pc : Nat} {ls : List (Nat × Value)} {st : List Value} {v : zV} (F : zF x G cc nL own fr lo) {i idx : Nat} (hT : zty G i 1 8) (hlink : Cond.fieldLink own idx "ContraryChairs$Tape" "place" "I" ∈ zTbl) (hd : decode cc pc = .ok (.getfield idx, 3)) (kk : zJ x G nL Q cs sl (pc + 3) ls (.int (v i 3) :: st) v) : zJ x G nL Q cs sl pc ls (zr G i :: st) v := z_getI F (c := 8) (C := RX8) (T := TX8) (N := 6) rfl uw_8 3 (by decide) (by decide +kernel) (by decide +kernel) hT hlink hd kk
theorem zp_8_3 {x : zCx} {G : zG} {cc : ByteArray} {nL : Nat} {own : String} {fr lo : Nat} {Q : State → Prop} {cs sl pc : Nat} {ls : List (Nat × Value)} {st : List Value} {v : zV} (F : zF x G cc nL own fr lo) {i idx : Nat} {y : Int32} (hT : zty G i 1 8) (hlink : Cond.fieldLink own idx "ContraryChairs$Tape" "place" "I" ∈ zTbl) (hd : decode cc pc = .ok (.putfield idx, 3)) (kk : zJ x G nL Q cs sl (pc + 3) ls st (zup v i 3 y)) : zJ x G nL Q cs sl pc ls (.int y :: zr G i :: st) v := z_putI F (c := 8) (C := RX8) (T := TX8) (N := 6) (ty := .int) tyX8 tyX8_ok nmX8 rfl uw_8 3 (by decide) (by decide +kernel) (by decide +kernel) rfl (by decide +kernel) rfl rfl hT hlink hd kk
theorem zg_8_4 {x : zCx} {G : zG} {cc : ByteArray} {nL : Nat} {own : String} {fr lo : Nat} {Q : State → Prop} {cs sl pc : Nat} {ls : List (Nat × Value)} {st : List Value} {v : zV} (F : zF x G cc nL own fr lo) {i idx : Nat} (hT : zty G i 1 8) (hlink : Cond.fieldLink own idx "ContraryChairs$Tape" "end" "I" ∈ zTbl) (hd : decode cc pc = .ok (.getfield idx, 3)) (kk : zJ x G nL Q cs sl (pc + 3) ls (.int (v i 4) :: st) v) : zJ x G nL Q cs sl pc ls (zr G i :: st) v := z_getI F (c := 8) (C := RX8) (T := TX8) (N := 6) rfl uw_8 4 (by decide) (by decide +kernel) (by decide +kernel) hT hlink hd kk
theorem zp_8_4 {x : zCx} {G : zG} {cc : ByteArray} {nL : Nat} {own : String} {fr lo : Nat} {Q : State → Prop} {cs sl pc : Nat} {ls : List (Nat × Value)} {st : List Value} {v : zV} (F : zF x G cc nL own fr lo) {i idx : Nat} {y : Int32} (hT : zty G i 1 8) (hlink : Cond.fieldLink own idx "ContraryChairs$Tape" "end" "I" ∈ zTbl) (hd : decode cc pc = .ok (.putfield idx, 3)) (kk : zJ x G nL Q cs sl (pc + 3) ls st (zup v i 4 y)) : zJ x G nL Q cs sl pc ls (.int y :: zr G i :: st) v := z_putI F (c := 8) (C := RX8) (T := TX8) (N := 6) (ty := .int) tyX8 tyX8_ok nmX8 rfl uw_8 4 (by decide) (by decide +kernel) (by decide +kernel) rfl (by decide +kernel) rfl rfl hT hlink hd kk
theorem zg_8_5 {x : zCx} {G : zG} {cc : ByteArray} {nL : Nat} {own : String} {fr lo : Nat} {Q : State → Prop} {cs sl pc : Nat} {ls : List (Nat × Value)} {st : List Value} {v : zV} (F : zF x G cc nL own fr lo) {i idx : Nat} (hT : zty G i 1 8) (hlink : Cond.fieldLink own idx "ContraryChairs$Tape" "at" "I" ∈ zTbl) (hd : decode cc pc = .ok (.getfield idx, 3)) (kk : zJ x G nL Q cs sl (pc + 3) ls (.int (v i 5) :: st) v) : zJ x G nL Q cs sl pc ls (zr G i :: st) v := z_getI F (c := 8) (C := RX8) (T := TX8) (N := 6) rfl uw_8 5 (by decide) (by decide +kernel) (by decide +kernel) hT hlink hd kk
theorem zp_8_5 {x : zCx} {G : zG} {cc : ByteArray} {nL : Nat} {own : String} {fr lo : Nat} {Q : State → Prop} {cs sl pc : Nat} {ls : List (Nat × Value)} {st : List Value} {v : zV} (F : zF x G cc nL own fr lo) {i idx : Nat} {y : Int32} (hT : zty G i 1 8) (hlink : Cond.fieldLink own idx "ContraryChairs$Tape" "at" "I" ∈ zTbl) (hd : decode cc pc = .ok (.putfield idx, 3)) (kk : zJ x G nL Q cs sl (pc + 3) ls st (zup v i 5 y)) : zJ x G nL Q cs sl pc ls (.int y :: zr G i :: st) v := z_putI F (c := 8) (C := RX8) (T := TX8) (N := 6) (ty := .int) tyX8 tyX8_ok nmX8 rfl uw_8 5 (by decide) (by decide +kernel) (by decide +kernel) rfl (by decide +kernel) rfl rfl hT hlink hd kk
theorem uw_9 : ∀ w ∈ u_ws RX9 TX9 17, w ∈ zTbl := by decide +kernel
theorem zg_9_0 {x : zCx} {G : zG} {cc : ByteArray} {nL : Nat} {own : String} {fr lo : Nat} {Q : State → Prop} {cs sl pc : Nat} {ls : List (Nat × Value)} {st : List Value} {v : zV} (F : zF x G cc nL own fr lo) {i idx : Nat} (hT : zty G i 1 9) (hlink : Cond.fieldLink own idx "ContraryChairs" "tape" "LContraryChairs$Tape;" ∈ zTbl) (hd : decode cc pc = .ok (.getfield idx, 3)) (kk : zJ x G nL Q cs sl (pc + 3) ls (zr G (zrf i 0) :: st) v) : zJ x G nL Q cs sl pc ls (zr G i :: st) v := z_getR F (c := 9) (C := RX9) (T := TX9) (N := 17) rfl uw_9 0 (by decide) (by decide +kernel) (by decide +kernel) hT hlink hd kk
theorem tc_9_0 : zchk 9 0 1 8 = true := by decide +kernel
theorem zg_9_1 {x : zCx} {G : zG} {cc : ByteArray} {nL : Nat} {own : String} {fr lo : Nat} {Q : State → Prop} {cs sl pc : Nat} {ls : List (Nat × Value)} {st : List Value} {v : zV} (F : zF x G cc nL own fr lo) {i idx : Nat} (hT : zty G i 1 9) (hlink : Cond.fieldLink own idx "ContraryChairs" "academy" "LContraryChairs$Academy;" ∈ zTbl) (hd : decode cc pc = .ok (.getfield idx, 3)) (kk : zJ x G nL Q cs sl (pc + 3) ls (zr G (zrf i 1) :: st) v) : zJ x G nL Q cs sl pc ls (zr G i :: st) v := z_getR F (c := 9) (C := RX9) (T := TX9) (N := 17) rfl uw_9 1 (by decide) (by decide +kernel) (by decide +kernel) hT hlink hd kk
theorem tc_9_1 : zchk 9 1 1 0 = true := by decide +kernel
theorem zg_9_2 {x : zCx} {G : zG} {cc : ByteArray} {nL : Nat} {own : String} {fr lo : Nat} {Q : State → Prop} {cs sl pc : Nat} {ls : List (Nat × Value)} {st : List Value} {v : zV} (F : zF x G cc nL own fr lo) {i idx : Nat} (hT : zty G i 1 9) (hlink : Cond.fieldLink own idx "ContraryChairs" "draftAcademy" "LContraryChairs$Academy;" ∈ zTbl) (hd : decode cc pc = .ok (.getfield idx, 3)) (kk : zJ x G nL Q cs sl (pc + 3) ls (zr G (zrf i 2) :: st) v) : zJ x G nL Q cs sl pc ls (zr G i :: st) v := z_getR F (c := 9) (C := RX9) (T := TX9) (N := 17) rfl uw_9 2 (by decide) (by decide +kernel) (by decide +kernel) hT hlink hd kk
theorem tc_9_2 : zchk 9 2 1 0 = true := by decide +kernel
theorem zg_9_3 {x : zCx} {G : zG} {cc : ByteArray} {nL : Nat} {own : String} {fr lo : Nat} {Q : State → Prop} {cs sl pc : Nat} {ls : List (Nat × Value)} {st : List Value} {v : zV} (F : zF x G cc nL own fr lo) {i idx : Nat} (hT : zty G i 1 9) (hlink : Cond.fieldLink own idx "ContraryChairs" "law" "LContraryChairs$Law;" ∈ zTbl) (hd : decode cc pc = .ok (.getfield idx, 3)) (kk : zJ x G nL Q cs sl (pc + 3) ls (zr G (zrf i 3) :: st) v) : zJ x G nL Q cs sl pc ls (zr G i :: st) v := z_getR F (c := 9) (C := RX9) (T := TX9) (N := 17) rfl uw_9 3 (by decide) (by decide +kernel) (by decide +kernel) hT hlink hd kk
theorem tc_9_3 : zchk 9 3 1 5 = true := by decide +kernel
theorem zg_9_4 {x : zCx} {G : zG} {cc : ByteArray} {nL : Nat} {own : String} {fr lo : Nat} {Q : State → Prop} {cs sl pc : Nat} {ls : List (Nat × Value)} {st : List Value} {v : zV} (F : zF x G cc nL own fr lo) {i idx : Nat} (hT : zty G i 1 9) (hlink : Cond.fieldLink own idx "ContraryChairs" "draftLaw" "LContraryChairs$Law;" ∈ zTbl) (hd : decode cc pc = .ok (.getfield idx, 3)) (kk : zJ x G nL Q cs sl (pc + 3) ls (zr G (zrf i 4) :: st) v) : zJ x G nL Q cs sl pc ls (zr G i :: st) v := z_getR F (c := 9) (C := RX9) (T := TX9) (N := 17) rfl uw_9 4 (by decide) (by decide +kernel) (by decide +kernel) hT hlink hd kk
theorem tc_9_4 : zchk 9 4 1 5 = true := by decide +kernel
theorem zg_9_5 {x : zCx} {G : zG} {cc : ByteArray} {nL : Nat} {own : String} {fr lo : Nat} {Q : State → Prop} {cs sl pc : Nat} {ls : List (Nat × Value)} {st : List Value} {v : zV} (F : zF x G cc nL own fr lo) {i idx : Nat} (hT : zty G i 1 9) (hlink : Cond.fieldLink own idx "ContraryChairs" "book" "LContraryChairs$Book;" ∈ zTbl) (hd : decode cc pc = .ok (.getfield idx, 3)) (kk : zJ x G nL Q cs sl (pc + 3) ls (zr G (zrf i 5) :: st) v) : zJ x G nL Q cs sl pc ls (zr G i :: st) v := z_getR F (c := 9) (C := RX9) (T := TX9) (N := 17) rfl uw_9 5 (by decide) (by decide +kernel) (by decide +kernel) hT hlink hd kk
theorem tc_9_5 : zchk 9 5 1 1 = true := by decide +kernel
theorem zg_9_6 {x : zCx} {G : zG} {cc : ByteArray} {nL : Nat} {own : String} {fr lo : Nat} {Q : State → Prop} {cs sl pc : Nat} {ls : List (Nat × Value)} {st : List Value} {v : zV} (F : zF x G cc nL own fr lo) {i idx : Nat} (hT : zty G i 1 9) (hlink : Cond.fieldLink own idx "ContraryChairs" "draftBook" "LContraryChairs$Book;" ∈ zTbl) (hd : decode cc pc = .ok (.getfield idx, 3)) (kk : zJ x G nL Q cs sl (pc + 3) ls (zr G (zrf i 6) :: st) v) : zJ x G nL Q cs sl pc ls (zr G i :: st) v := z_getR F (c := 9) (C := RX9) (T := TX9) (N := 17) rfl uw_9 6 (by decide) (by decide +kernel) (by decide +kernel) hT hlink hd kk
theorem tc_9_6 : zchk 9 6 1 1 = true := by decide +kernel
theorem zg_9_7 {x : zCx} {G : zG} {cc : ByteArray} {nL : Nat} {own : String} {fr lo : Nat} {Q : State → Prop} {cs sl pc : Nat} {ls : List (Nat × Value)} {st : List Value} {v : zV} (F : zF x G cc nL own fr lo) {i idx : Nat} (hT : zty G i 1 9) (hlink : Cond.fieldLink own idx "ContraryChairs" "now" "LContraryChairs$Row;" ∈ zTbl) (hd : decode cc pc = .ok (.getfield idx, 3)) (kk : zJ x G nL Q cs sl (pc + 3) ls (zr G (zrf i 7) :: st) v) : zJ x G nL Q cs sl pc ls (zr G i :: st) v := z_getR F (c := 9) (C := RX9) (T := TX9) (N := 17) rfl uw_9 7 (by decide) (by decide +kernel) (by decide +kernel) hT hlink hd kk
theorem tc_9_7 : zchk 9 7 1 7 = true := by decide +kernel
theorem zg_9_8 {x : zCx} {G : zG} {cc : ByteArray} {nL : Nat} {own : String} {fr lo : Nat} {Q : State → Prop} {cs sl pc : Nat} {ls : List (Nat × Value)} {st : List Value} {v : zV} (F : zF x G cc nL own fr lo) {i idx : Nat} (hT : zty G i 1 9) (hlink : Cond.fieldLink own idx "ContraryChairs" "undoEnd" "LContraryChairs$Row;" ∈ zTbl) (hd : decode cc pc = .ok (.getfield idx, 3)) (kk : zJ x G nL Q cs sl (pc + 3) ls (zr G (zrf i 8) :: st) v) : zJ x G nL Q cs sl pc ls (zr G i :: st) v := z_getR F (c := 9) (C := RX9) (T := TX9) (N := 17) rfl uw_9 8 (by decide) (by decide +kernel) (by decide +kernel) hT hlink hd kk
theorem tc_9_8 : zchk 9 8 1 7 = true := by decide +kernel
theorem zg_9_9 {x : zCx} {G : zG} {cc : ByteArray} {nL : Nat} {own : String} {fr lo : Nat} {Q : State → Prop} {cs sl pc : Nat} {ls : List (Nat × Value)} {st : List Value} {v : zV} (F : zF x G cc nL own fr lo) {i idx : Nat} (hT : zty G i 1 9) (hlink : Cond.fieldLink own idx "ContraryChairs" "images" "[LContraryChairs$Row;" ∈ zTbl) (hd : decode cc pc = .ok (.getfield idx, 3)) (kk : zJ x G nL Q cs sl (pc + 3) ls (zr G (zrf i 9) :: st) v) : zJ x G nL Q cs sl pc ls (zr G i :: st) v := z_getR F (c := 9) (C := RX9) (T := TX9) (N := 17) rfl uw_9 9 (by decide) (by decide +kernel) (by decide +kernel) hT hlink hd kk
theorem tc_9_9 : zchk 9 9 2 4 = true := by decide +kernel
theorem zg_9_10 {x : zCx} {G : zG} {cc : ByteArray} {nL : Nat} {own : String} {fr lo : Nat} {Q : State → Prop} {cs sl pc : Nat} {ls : List (Nat × Value)} {st : List Value} {v : zV} (F : zF x G cc nL own fr lo) {i idx : Nat} (hT : zty G i 1 9) (hlink : Cond.fieldLink own idx "ContraryChairs" "imageCount" "I" ∈ zTbl) (hd : decode cc pc = .ok (.getfield idx, 3)) (kk : zJ x G nL Q cs sl (pc + 3) ls (.int (v i 10) :: st) v) : zJ x G nL Q cs sl pc ls (zr G i :: st) v := z_getI F (c := 9) (C := RX9) (T := TX9) (N := 17) rfl uw_9 10 (by decide) (by decide +kernel) (by decide +kernel) hT hlink hd kk
theorem zp_9_10 {x : zCx} {G : zG} {cc : ByteArray} {nL : Nat} {own : String} {fr lo : Nat} {Q : State → Prop} {cs sl pc : Nat} {ls : List (Nat × Value)} {st : List Value} {v : zV} (F : zF x G cc nL own fr lo) {i idx : Nat} {y : Int32} (hT : zty G i 1 9) (hlink : Cond.fieldLink own idx "ContraryChairs" "imageCount" "I" ∈ zTbl) (hd : decode cc pc = .ok (.putfield idx, 3)) (kk : zJ x G nL Q cs sl (pc + 3) ls st (zup v i 10 y)) : zJ x G nL Q cs sl pc ls (.int y :: zr G i :: st) v := z_putI F (c := 9) (C := RX9) (T := TX9) (N := 17) (ty := .int) tyX9 tyX9_ok nmX9 rfl uw_9 10 (by decide) (by decide +kernel) (by decide +kernel) rfl (by decide +kernel) rfl rfl hT hlink hd kk
theorem zg_9_11 {x : zCx} {G : zG} {cc : ByteArray} {nL : Nat} {own : String} {fr lo : Nat} {Q : State → Prop} {cs sl pc : Nat} {ls : List (Nat × Value)} {st : List Value} {v : zV} (F : zF x G cc nL own fr lo) {i idx : Nat} (hT : zty G i 1 9) (hlink : Cond.fieldLink own idx "ContraryChairs" "calendar" "LContraryChairs$Calendar;" ∈ zTbl) (hd : decode cc pc = .ok (.getfield idx, 3)) (kk : zJ x G nL Q cs sl (pc + 3) ls (zr G (zrf i 11) :: st) v) : zJ x G nL Q cs sl pc ls (zr G i :: st) v := z_getR F (c := 9) (C := RX9) (T := TX9) (N := 17) rfl uw_9 11 (by decide) (by decide +kernel) (by decide +kernel) hT hlink hd kk
theorem tc_9_11 : zchk 9 11 1 2 = true := by decide +kernel
theorem zg_9_12 {x : zCx} {G : zG} {cc : ByteArray} {nL : Nat} {own : String} {fr lo : Nat} {Q : State → Prop} {cs sl pc : Nat} {ls : List (Nat × Value)} {st : List Value} {v : zV} (F : zF x G cc nL own fr lo) {i idx : Nat} (hT : zty G i 1 9) (hlink : Cond.fieldLink own idx "ContraryChairs" "foresight" "LContraryChairs$Foresight;" ∈ zTbl) (hd : decode cc pc = .ok (.getfield idx, 3)) (kk : zJ x G nL Q cs sl (pc + 3) ls (zr G (zrf i 12) :: st) v) : zJ x G nL Q cs sl pc ls (zr G i :: st) v := z_getR F (c := 9) (C := RX9) (T := TX9) (N := 17) rfl uw_9 12 (by decide) (by decide +kernel) (by decide +kernel) hT hlink hd kk
theorem tc_9_12 : zchk 9 12 1 4 = true := by decide +kernel
theorem zg_9_13 {x : zCx} {G : zG} {cc : ByteArray} {nL : Nat} {own : String} {fr lo : Nat} {Q : State → Prop} {cs sl pc : Nat} {ls : List (Nat × Value)} {st : List Value} {v : zV} (F : zF x G cc nL own fr lo) {i idx : Nat} (hT : zty G i 1 9) (hlink : Cond.fieldLink own idx "ContraryChairs" "records" "LContraryChairs$Records;" ∈ zTbl) (hd : decode cc pc = .ok (.getfield idx, 3)) (kk : zJ x G nL Q cs sl (pc + 3) ls (zr G (zrf i 13) :: st) v) : zJ x G nL Q cs sl pc ls (zr G i :: st) v := z_getR F (c := 9) (C := RX9) (T := TX9) (N := 17) rfl uw_9 13 (by decide) (by decide +kernel) (by decide +kernel) hT hlink hd kk
theorem tc_9_13 : zchk 9 13 1 6 = true := by decide +kernel
theorem zg_9_14 {x : zCx} {G : zG} {cc : ByteArray} {nL : Nat} {own : String} {fr lo : Nat} {Q : State → Prop} {cs sl pc : Nat} {ls : List (Nat × Value)} {st : List Value} {v : zV} (F : zF x G cc nL own fr lo) {i idx : Nat} (hT : zty G i 1 9) (hlink : Cond.fieldLink own idx "ContraryChairs" "company" "LContraryChairs$Company;" ∈ zTbl) (hd : decode cc pc = .ok (.getfield idx, 3)) (kk : zJ x G nL Q cs sl (pc + 3) ls (zr G (zrf i 14) :: st) v) : zJ x G nL Q cs sl pc ls (zr G i :: st) v := z_getR F (c := 9) (C := RX9) (T := TX9) (N := 17) rfl uw_9 14 (by decide) (by decide +kernel) (by decide +kernel) hT hlink hd kk
theorem tc_9_14 : zchk 9 14 1 3 = true := by decide +kernel
theorem zg_9_15 {x : zCx} {G : zG} {cc : ByteArray} {nL : Nat} {own : String} {fr lo : Nat} {Q : State → Prop} {cs sl pc : Nat} {ls : List (Nat × Value)} {st : List Value} {v : zV} (F : zF x G cc nL own fr lo) {i idx : Nat} (hT : zty G i 1 9) (hlink : Cond.fieldLink own idx "ContraryChairs" "unknownCalls" "I" ∈ zTbl) (hd : decode cc pc = .ok (.getfield idx, 3)) (kk : zJ x G nL Q cs sl (pc + 3) ls (.int (v i 15) :: st) v) : zJ x G nL Q cs sl pc ls (zr G i :: st) v := z_getI F (c := 9) (C := RX9) (T := TX9) (N := 17) rfl uw_9 15 (by decide) (by decide +kernel) (by decide +kernel) hT hlink hd kk
theorem zp_9_15 {x : zCx} {G : zG} {cc : ByteArray} {nL : Nat} {own : String} {fr lo : Nat} {Q : State → Prop} {cs sl pc : Nat} {ls : List (Nat × Value)} {st : List Value} {v : zV} (F : zF x G cc nL own fr lo) {i idx : Nat} {y : Int32} (hT : zty G i 1 9) (hlink : Cond.fieldLink own idx "ContraryChairs" "unknownCalls" "I" ∈ zTbl) (hd : decode cc pc = .ok (.putfield idx, 3)) (kk : zJ x G nL Q cs sl (pc + 3) ls st (zup v i 15 y)) : zJ x G nL Q cs sl pc ls (.int y :: zr G i :: st) v := z_putI F (c := 9) (C := RX9) (T := TX9) (N := 17) (ty := .int) tyX9 tyX9_ok nmX9 rfl uw_9 15 (by decide) (by decide +kernel) (by decide +kernel) rfl (by decide +kernel) rfl rfl hT hlink hd kk
theorem zg_9_16 {x : zCx} {G : zG} {cc : ByteArray} {nL : Nat} {own : String} {fr lo : Nat} {Q : State → Prop} {cs sl pc : Nat} {ls : List (Nat × Value)} {st : List Value} {v : zV} (F : zF x G cc nL own fr lo) {i idx : Nat} (hT : zty G i 1 9) (hlink : Cond.fieldLink own idx "ContraryChairs" "unfitCalls" "I" ∈ zTbl) (hd : decode cc pc = .ok (.getfield idx, 3)) (kk : zJ x G nL Q cs sl (pc + 3) ls (.int (v i 16) :: st) v) : zJ x G nL Q cs sl pc ls (zr G i :: st) v := z_getI F (c := 9) (C := RX9) (T := TX9) (N := 17) rfl uw_9 16 (by decide) (by decide +kernel) (by decide +kernel) hT hlink hd kk
theorem zp_9_16 {x : zCx} {G : zG} {cc : ByteArray} {nL : Nat} {own : String} {fr lo : Nat} {Q : State → Prop} {cs sl pc : Nat} {ls : List (Nat × Value)} {st : List Value} {v : zV} (F : zF x G cc nL own fr lo) {i idx : Nat} {y : Int32} (hT : zty G i 1 9) (hlink : Cond.fieldLink own idx "ContraryChairs" "unfitCalls" "I" ∈ zTbl) (hd : decode cc pc = .ok (.putfield idx, 3)) (kk : zJ x G nL Q cs sl (pc + 3) ls st (zup v i 16 y)) : zJ x G nL Q cs sl pc ls (.int y :: zr G i :: st) v := z_putI F (c := 9) (C := RX9) (T := TX9) (N := 17) (ty := .int) tyX9 tyX9_ok nmX9 rfl uw_9 16 (by decide) (by decide +kernel) (by decide +kernel) rfl (by decide +kernel) rfl rfl hT hlink hd kk
theorem uw_10 : ∀ w ∈ u_ws RX10 TX10 60, w ∈ zTbl := by decide +kernel
theorem zg_10_0 {x : zCx} {G : zG} {cc : ByteArray} {nL : Nat} {own : String} {fr lo : Nat} {Q : State → Prop} {cs sl pc : Nat} {ls : List (Nat × Value)} {st : List Value} {v : zV} (F : zF x G cc nL own fr lo) {i idx : Nat} (hT : zty G i 1 10) (hlink : Cond.fieldLink own idx "ContraryChairsModel" "thrown" "I" ∈ zTbl) (hd : decode cc pc = .ok (.getfield idx, 3)) (kk : zJ x G nL Q cs sl (pc + 3) ls (.int (v i 0) :: st) v) : zJ x G nL Q cs sl pc ls (zr G i :: st) v := z_getI F (c := 10) (C := RX10) (T := TX10) (N := 60) rfl uw_10 0 (by decide) (by decide +kernel) (by decide +kernel) hT hlink hd kk
theorem zp_10_0 {x : zCx} {G : zG} {cc : ByteArray} {nL : Nat} {own : String} {fr lo : Nat} {Q : State → Prop} {cs sl pc : Nat} {ls : List (Nat × Value)} {st : List Value} {v : zV} (F : zF x G cc nL own fr lo) {i idx : Nat} {y : Int32} (hT : zty G i 1 10) (hlink : Cond.fieldLink own idx "ContraryChairsModel" "thrown" "I" ∈ zTbl) (hd : decode cc pc = .ok (.putfield idx, 3)) (kk : zJ x G nL Q cs sl (pc + 3) ls st (zup v i 0 y)) : zJ x G nL Q cs sl pc ls (.int y :: zr G i :: st) v := z_putI F (c := 10) (C := RX10) (T := TX10) (N := 60) (ty := .int) tyX10 tyX10_ok nmX10 rfl uw_10 0 (by decide) (by decide +kernel) (by decide +kernel) rfl (by decide +kernel) rfl rfl hT hlink hd kk
theorem zg_10_1 {x : zCx} {G : zG} {cc : ByteArray} {nL : Nat} {own : String} {fr lo : Nat} {Q : State → Prop} {cs sl pc : Nat} {ls : List (Nat × Value)} {st : List Value} {v : zV} (F : zF x G cc nL own fr lo) {i idx : Nat} (hT : zty G i 1 10) (hlink : Cond.fieldLink own idx "ContraryChairsModel" "tape" "I" ∈ zTbl) (hd : decode cc pc = .ok (.getfield idx, 3)) (kk : zJ x G nL Q cs sl (pc + 3) ls (.int (v i 1) :: st) v) : zJ x G nL Q cs sl pc ls (zr G i :: st) v := z_getI F (c := 10) (C := RX10) (T := TX10) (N := 60) rfl uw_10 1 (by decide) (by decide +kernel) (by decide +kernel) hT hlink hd kk
theorem zp_10_1 {x : zCx} {G : zG} {cc : ByteArray} {nL : Nat} {own : String} {fr lo : Nat} {Q : State → Prop} {cs sl pc : Nat} {ls : List (Nat × Value)} {st : List Value} {v : zV} (F : zF x G cc nL own fr lo) {i idx : Nat} {y : Int32} (hT : zty G i 1 10) (hlink : Cond.fieldLink own idx "ContraryChairsModel" "tape" "I" ∈ zTbl) (hd : decode cc pc = .ok (.putfield idx, 3)) (kk : zJ x G nL Q cs sl (pc + 3) ls st (zup v i 1 y)) : zJ x G nL Q cs sl pc ls (.int y :: zr G i :: st) v := z_putI F (c := 10) (C := RX10) (T := TX10) (N := 60) (ty := .int) tyX10 tyX10_ok nmX10 rfl uw_10 1 (by decide) (by decide +kernel) (by decide +kernel) rfl (by decide +kernel) rfl rfl hT hlink hd kk
theorem zg_10_2 {x : zCx} {G : zG} {cc : ByteArray} {nL : Nat} {own : String} {fr lo : Nat} {Q : State → Prop} {cs sl pc : Nat} {ls : List (Nat × Value)} {st : List Value} {v : zV} (F : zF x G cc nL own fr lo) {i idx : Nat} (hT : zty G i 1 10) (hlink : Cond.fieldLink own idx "ContraryChairsModel" "size" "I" ∈ zTbl) (hd : decode cc pc = .ok (.getfield idx, 3)) (kk : zJ x G nL Q cs sl (pc + 3) ls (.int (v i 2) :: st) v) : zJ x G nL Q cs sl pc ls (zr G i :: st) v := z_getI F (c := 10) (C := RX10) (T := TX10) (N := 60) rfl uw_10 2 (by decide) (by decide +kernel) (by decide +kernel) hT hlink hd kk
theorem zp_10_2 {x : zCx} {G : zG} {cc : ByteArray} {nL : Nat} {own : String} {fr lo : Nat} {Q : State → Prop} {cs sl pc : Nat} {ls : List (Nat × Value)} {st : List Value} {v : zV} (F : zF x G cc nL own fr lo) {i idx : Nat} {y : Int32} (hT : zty G i 1 10) (hlink : Cond.fieldLink own idx "ContraryChairsModel" "size" "I" ∈ zTbl) (hd : decode cc pc = .ok (.putfield idx, 3)) (kk : zJ x G nL Q cs sl (pc + 3) ls st (zup v i 2 y)) : zJ x G nL Q cs sl pc ls (.int y :: zr G i :: st) v := z_putI F (c := 10) (C := RX10) (T := TX10) (N := 60) (ty := .int) tyX10 tyX10_ok nmX10 rfl uw_10 2 (by decide) (by decide +kernel) (by decide +kernel) rfl (by decide +kernel) rfl rfl hT hlink hd kk
theorem zg_10_3 {x : zCx} {G : zG} {cc : ByteArray} {nL : Nat} {own : String} {fr lo : Nat} {Q : State → Prop} {cs sl pc : Nat} {ls : List (Nat × Value)} {st : List Value} {v : zV} (F : zF x G cc nL own fr lo) {i idx : Nat} (hT : zty G i 1 10) (hlink : Cond.fieldLink own idx "ContraryChairsModel" "place" "I" ∈ zTbl) (hd : decode cc pc = .ok (.getfield idx, 3)) (kk : zJ x G nL Q cs sl (pc + 3) ls (.int (v i 3) :: st) v) : zJ x G nL Q cs sl pc ls (zr G i :: st) v := z_getI F (c := 10) (C := RX10) (T := TX10) (N := 60) rfl uw_10 3 (by decide) (by decide +kernel) (by decide +kernel) hT hlink hd kk
theorem zp_10_3 {x : zCx} {G : zG} {cc : ByteArray} {nL : Nat} {own : String} {fr lo : Nat} {Q : State → Prop} {cs sl pc : Nat} {ls : List (Nat × Value)} {st : List Value} {v : zV} (F : zF x G cc nL own fr lo) {i idx : Nat} {y : Int32} (hT : zty G i 1 10) (hlink : Cond.fieldLink own idx "ContraryChairsModel" "place" "I" ∈ zTbl) (hd : decode cc pc = .ok (.putfield idx, 3)) (kk : zJ x G nL Q cs sl (pc + 3) ls st (zup v i 3 y)) : zJ x G nL Q cs sl pc ls (.int y :: zr G i :: st) v := z_putI F (c := 10) (C := RX10) (T := TX10) (N := 60) (ty := .int) tyX10 tyX10_ok nmX10 rfl uw_10 3 (by decide) (by decide +kernel) (by decide +kernel) rfl (by decide +kernel) rfl rfl hT hlink hd kk
theorem zg_10_4 {x : zCx} {G : zG} {cc : ByteArray} {nL : Nat} {own : String} {fr lo : Nat} {Q : State → Prop} {cs sl pc : Nat} {ls : List (Nat × Value)} {st : List Value} {v : zV} (F : zF x G cc nL own fr lo) {i idx : Nat} (hT : zty G i 1 10) (hlink : Cond.fieldLink own idx "ContraryChairsModel" "at" "I" ∈ zTbl) (hd : decode cc pc = .ok (.getfield idx, 3)) (kk : zJ x G nL Q cs sl (pc + 3) ls (.int (v i 4) :: st) v) : zJ x G nL Q cs sl pc ls (zr G i :: st) v := z_getI F (c := 10) (C := RX10) (T := TX10) (N := 60) rfl uw_10 4 (by decide) (by decide +kernel) (by decide +kernel) hT hlink hd kk
theorem zp_10_4 {x : zCx} {G : zG} {cc : ByteArray} {nL : Nat} {own : String} {fr lo : Nat} {Q : State → Prop} {cs sl pc : Nat} {ls : List (Nat × Value)} {st : List Value} {v : zV} (F : zF x G cc nL own fr lo) {i idx : Nat} {y : Int32} (hT : zty G i 1 10) (hlink : Cond.fieldLink own idx "ContraryChairsModel" "at" "I" ∈ zTbl) (hd : decode cc pc = .ok (.putfield idx, 3)) (kk : zJ x G nL Q cs sl (pc + 3) ls st (zup v i 4 y)) : zJ x G nL Q cs sl pc ls (.int y :: zr G i :: st) v := z_putI F (c := 10) (C := RX10) (T := TX10) (N := 60) (ty := .int) tyX10 tyX10_ok nmX10 rfl uw_10 4 (by decide) (by decide +kernel) (by decide +kernel) rfl (by decide +kernel) rfl rfl hT hlink hd kk
theorem zg_10_5 {x : zCx} {G : zG} {cc : ByteArray} {nL : Nat} {own : String} {fr lo : Nat} {Q : State → Prop} {cs sl pc : Nat} {ls : List (Nat × Value)} {st : List Value} {v : zV} (F : zF x G cc nL own fr lo) {i idx : Nat} (hT : zty G i 1 10) (hlink : Cond.fieldLink own idx "ContraryChairsModel" "fault" "I" ∈ zTbl) (hd : decode cc pc = .ok (.getfield idx, 3)) (kk : zJ x G nL Q cs sl (pc + 3) ls (.int (v i 5) :: st) v) : zJ x G nL Q cs sl pc ls (zr G i :: st) v := z_getI F (c := 10) (C := RX10) (T := TX10) (N := 60) rfl uw_10 5 (by decide) (by decide +kernel) (by decide +kernel) hT hlink hd kk
theorem zp_10_5 {x : zCx} {G : zG} {cc : ByteArray} {nL : Nat} {own : String} {fr lo : Nat} {Q : State → Prop} {cs sl pc : Nat} {ls : List (Nat × Value)} {st : List Value} {v : zV} (F : zF x G cc nL own fr lo) {i idx : Nat} {y : Int32} (hT : zty G i 1 10) (hlink : Cond.fieldLink own idx "ContraryChairsModel" "fault" "I" ∈ zTbl) (hd : decode cc pc = .ok (.putfield idx, 3)) (kk : zJ x G nL Q cs sl (pc + 3) ls st (zup v i 5 y)) : zJ x G nL Q cs sl pc ls (.int y :: zr G i :: st) v := z_putI F (c := 10) (C := RX10) (T := TX10) (N := 60) (ty := .int) tyX10 tyX10_ok nmX10 rfl uw_10 5 (by decide) (by decide +kernel) (by decide +kernel) rfl (by decide +kernel) rfl rfl hT hlink hd kk
theorem zg_10_6 {x : zCx} {G : zG} {cc : ByteArray} {nL : Nat} {own : String} {fr lo : Nat} {Q : State → Prop} {cs sl pc : Nat} {ls : List (Nat × Value)} {st : List Value} {v : zV} (F : zF x G cc nL own fr lo) {i idx : Nat} (hT : zty G i 1 10) (hlink : Cond.fieldLink own idx "ContraryChairsModel" "faultAt" "I" ∈ zTbl) (hd : decode cc pc = .ok (.getfield idx, 3)) (kk : zJ x G nL Q cs sl (pc + 3) ls (.int (v i 6) :: st) v) : zJ x G nL Q cs sl pc ls (zr G i :: st) v := z_getI F (c := 10) (C := RX10) (T := TX10) (N := 60) rfl uw_10 6 (by decide) (by decide +kernel) (by decide +kernel) hT hlink hd kk
theorem zp_10_6 {x : zCx} {G : zG} {cc : ByteArray} {nL : Nat} {own : String} {fr lo : Nat} {Q : State → Prop} {cs sl pc : Nat} {ls : List (Nat × Value)} {st : List Value} {v : zV} (F : zF x G cc nL own fr lo) {i idx : Nat} {y : Int32} (hT : zty G i 1 10) (hlink : Cond.fieldLink own idx "ContraryChairsModel" "faultAt" "I" ∈ zTbl) (hd : decode cc pc = .ok (.putfield idx, 3)) (kk : zJ x G nL Q cs sl (pc + 3) ls st (zup v i 6 y)) : zJ x G nL Q cs sl pc ls (.int y :: zr G i :: st) v := z_putI F (c := 10) (C := RX10) (T := TX10) (N := 60) (ty := .int) tyX10 tyX10_ok nmX10 rfl uw_10 6 (by decide) (by decide +kernel) (by decide +kernel) rfl (by decide +kernel) rfl rfl hT hlink hd kk
theorem zg_10_7 {x : zCx} {G : zG} {cc : ByteArray} {nL : Nat} {own : String} {fr lo : Nat} {Q : State → Prop} {cs sl pc : Nat} {ls : List (Nat × Value)} {st : List Value} {v : zV} (F : zF x G cc nL own fr lo) {i idx : Nat} (hT : zty G i 1 10) (hlink : Cond.fieldLink own idx "ContraryChairsModel" "clauses" "I" ∈ zTbl) (hd : decode cc pc = .ok (.getfield idx, 3)) (kk : zJ x G nL Q cs sl (pc + 3) ls (.int (v i 7) :: st) v) : zJ x G nL Q cs sl pc ls (zr G i :: st) v := z_getI F (c := 10) (C := RX10) (T := TX10) (N := 60) rfl uw_10 7 (by decide) (by decide +kernel) (by decide +kernel) hT hlink hd kk
theorem zp_10_7 {x : zCx} {G : zG} {cc : ByteArray} {nL : Nat} {own : String} {fr lo : Nat} {Q : State → Prop} {cs sl pc : Nat} {ls : List (Nat × Value)} {st : List Value} {v : zV} (F : zF x G cc nL own fr lo) {i idx : Nat} {y : Int32} (hT : zty G i 1 10) (hlink : Cond.fieldLink own idx "ContraryChairsModel" "clauses" "I" ∈ zTbl) (hd : decode cc pc = .ok (.putfield idx, 3)) (kk : zJ x G nL Q cs sl (pc + 3) ls st (zup v i 7 y)) : zJ x G nL Q cs sl pc ls (.int y :: zr G i :: st) v := z_putI F (c := 10) (C := RX10) (T := TX10) (N := 60) (ty := .int) tyX10 tyX10_ok nmX10 rfl uw_10 7 (by decide) (by decide +kernel) (by decide +kernel) rfl (by decide +kernel) rfl rfl hT hlink hd kk
theorem zg_10_8 {x : zCx} {G : zG} {cc : ByteArray} {nL : Nat} {own : String} {fr lo : Nat} {Q : State → Prop} {cs sl pc : Nat} {ls : List (Nat × Value)} {st : List Value} {v : zV} (F : zF x G cc nL own fr lo) {i idx : Nat} (hT : zty G i 1 10) (hlink : Cond.fieldLink own idx "ContraryChairsModel" "open" "I" ∈ zTbl) (hd : decode cc pc = .ok (.getfield idx, 3)) (kk : zJ x G nL Q cs sl (pc + 3) ls (.int (v i 8) :: st) v) : zJ x G nL Q cs sl pc ls (zr G i :: st) v := z_getI F (c := 10) (C := RX10) (T := TX10) (N := 60) rfl uw_10 8 (by decide) (by decide +kernel) (by decide +kernel) hT hlink hd kk
theorem zp_10_8 {x : zCx} {G : zG} {cc : ByteArray} {nL : Nat} {own : String} {fr lo : Nat} {Q : State → Prop} {cs sl pc : Nat} {ls : List (Nat × Value)} {st : List Value} {v : zV} (F : zF x G cc nL own fr lo) {i idx : Nat} {y : Int32} (hT : zty G i 1 10) (hlink : Cond.fieldLink own idx "ContraryChairsModel" "open" "I" ∈ zTbl) (hd : decode cc pc = .ok (.putfield idx, 3)) (kk : zJ x G nL Q cs sl (pc + 3) ls st (zup v i 8 y)) : zJ x G nL Q cs sl pc ls (.int y :: zr G i :: st) v := z_putI F (c := 10) (C := RX10) (T := TX10) (N := 60) (ty := .int) tyX10 tyX10_ok nmX10 rfl uw_10 8 (by decide) (by decide +kernel) (by decide +kernel) rfl (by decide +kernel) rfl rfl hT hlink hd kk
theorem zg_10_9 {x : zCx} {G : zG} {cc : ByteArray} {nL : Nat} {own : String} {fr lo : Nat} {Q : State → Prop} {cs sl pc : Nat} {ls : List (Nat × Value)} {st : List Value} {v : zV} (F : zF x G cc nL own fr lo) {i idx : Nat} (hT : zty G i 1 10) (hlink : Cond.fieldLink own idx "ContraryChairsModel" "fed" "[I" ∈ zTbl) (hd : decode cc pc = .ok (.getfield idx, 3)) (kk : zJ x G nL Q cs sl (pc + 3) ls (zr G (zrf i 9) :: st) v) : zJ x G nL Q cs sl pc ls (zr G i :: st) v := z_getR F (c := 10) (C := RX10) (T := TX10) (N := 60) rfl uw_10 9 (by decide) (by decide +kernel) (by decide +kernel) hT hlink hd kk
theorem tc_10_9 : zchk 10 9 2 0 = true := by decide +kernel
theorem zg_10_10 {x : zCx} {G : zG} {cc : ByteArray} {nL : Nat} {own : String} {fr lo : Nat} {Q : State → Prop} {cs sl pc : Nat} {ls : List (Nat × Value)} {st : List Value} {v : zV} (F : zF x G cc nL own fr lo) {i idx : Nat} (hT : zty G i 1 10) (hlink : Cond.fieldLink own idx "ContraryChairsModel" "refused" "[I" ∈ zTbl) (hd : decode cc pc = .ok (.getfield idx, 3)) (kk : zJ x G nL Q cs sl (pc + 3) ls (zr G (zrf i 10) :: st) v) : zJ x G nL Q cs sl pc ls (zr G i :: st) v := z_getR F (c := 10) (C := RX10) (T := TX10) (N := 60) rfl uw_10 10 (by decide) (by decide +kernel) (by decide +kernel) hT hlink hd kk
theorem tc_10_10 : zchk 10 10 2 0 = true := by decide +kernel
theorem zg_10_11 {x : zCx} {G : zG} {cc : ByteArray} {nL : Nat} {own : String} {fr lo : Nat} {Q : State → Prop} {cs sl pc : Nat} {ls : List (Nat × Value)} {st : List Value} {v : zV} (F : zF x G cc nL own fr lo) {i idx : Nat} (hT : zty G i 1 10) (hlink : Cond.fieldLink own idx "ContraryChairsModel" "readTold" "[I" ∈ zTbl) (hd : decode cc pc = .ok (.getfield idx, 3)) (kk : zJ x G nL Q cs sl (pc + 3) ls (zr G (zrf i 11) :: st) v) : zJ x G nL Q cs sl pc ls (zr G i :: st) v := z_getR F (c := 10) (C := RX10) (T := TX10) (N := 60) rfl uw_10 11 (by decide) (by decide +kernel) (by decide +kernel) hT hlink hd kk
theorem tc_10_11 : zchk 10 11 2 0 = true := by decide +kernel
theorem zg_10_12 {x : zCx} {G : zG} {cc : ByteArray} {nL : Nat} {own : String} {fr lo : Nat} {Q : State → Prop} {cs sl pc : Nat} {ls : List (Nat × Value)} {st : List Value} {v : zV} (F : zF x G cc nL own fr lo) {i idx : Nat} (hT : zty G i 1 10) (hlink : Cond.fieldLink own idx "ContraryChairsModel" "told" "[I" ∈ zTbl) (hd : decode cc pc = .ok (.getfield idx, 3)) (kk : zJ x G nL Q cs sl (pc + 3) ls (zr G (zrf i 12) :: st) v) : zJ x G nL Q cs sl pc ls (zr G i :: st) v := z_getR F (c := 10) (C := RX10) (T := TX10) (N := 60) rfl uw_10 12 (by decide) (by decide +kernel) (by decide +kernel) hT hlink hd kk
theorem tc_10_12 : zchk 10 12 2 0 = true := by decide +kernel
theorem zg_10_13 {x : zCx} {G : zG} {cc : ByteArray} {nL : Nat} {own : String} {fr lo : Nat} {Q : State → Prop} {cs sl pc : Nat} {ls : List (Nat × Value)} {st : List Value} {v : zV} (F : zF x G cc nL own fr lo) {i idx : Nat} (hT : zty G i 1 10) (hlink : Cond.fieldLink own idx "ContraryChairsModel" "readSides" "[I" ∈ zTbl) (hd : decode cc pc = .ok (.getfield idx, 3)) (kk : zJ x G nL Q cs sl (pc + 3) ls (zr G (zrf i 13) :: st) v) : zJ x G nL Q cs sl pc ls (zr G i :: st) v := z_getR F (c := 10) (C := RX10) (T := TX10) (N := 60) rfl uw_10 13 (by decide) (by decide +kernel) (by decide +kernel) hT hlink hd kk
theorem tc_10_13 : zchk 10 13 2 0 = true := by decide +kernel
theorem zg_10_14 {x : zCx} {G : zG} {cc : ByteArray} {nL : Nat} {own : String} {fr lo : Nat} {Q : State → Prop} {cs sl pc : Nat} {ls : List (Nat × Value)} {st : List Value} {v : zV} (F : zF x G cc nL own fr lo) {i idx : Nat} (hT : zty G i 1 10) (hlink : Cond.fieldLink own idx "ContraryChairsModel" "sides" "[I" ∈ zTbl) (hd : decode cc pc = .ok (.getfield idx, 3)) (kk : zJ x G nL Q cs sl (pc + 3) ls (zr G (zrf i 14) :: st) v) : zJ x G nL Q cs sl pc ls (zr G i :: st) v := z_getR F (c := 10) (C := RX10) (T := TX10) (N := 60) rfl uw_10 14 (by decide) (by decide +kernel) (by decide +kernel) hT hlink hd kk
theorem tc_10_14 : zchk 10 14 2 0 = true := by decide +kernel
theorem zg_10_15 {x : zCx} {G : zG} {cc : ByteArray} {nL : Nat} {own : String} {fr lo : Nat} {Q : State → Prop} {cs sl pc : Nat} {ls : List (Nat × Value)} {st : List Value} {v : zV} (F : zF x G cc nL own fr lo) {i idx : Nat} (hT : zty G i 1 10) (hlink : Cond.fieldLink own idx "ContraryChairsModel" "readAge" "[I" ∈ zTbl) (hd : decode cc pc = .ok (.getfield idx, 3)) (kk : zJ x G nL Q cs sl (pc + 3) ls (zr G (zrf i 15) :: st) v) : zJ x G nL Q cs sl pc ls (zr G i :: st) v := z_getR F (c := 10) (C := RX10) (T := TX10) (N := 60) rfl uw_10 15 (by decide) (by decide +kernel) (by decide +kernel) hT hlink hd kk
theorem tc_10_15 : zchk 10 15 2 0 = true := by decide +kernel
theorem zg_10_16 {x : zCx} {G : zG} {cc : ByteArray} {nL : Nat} {own : String} {fr lo : Nat} {Q : State → Prop} {cs sl pc : Nat} {ls : List (Nat × Value)} {st : List Value} {v : zV} (F : zF x G cc nL own fr lo) {i idx : Nat} (hT : zty G i 1 10) (hlink : Cond.fieldLink own idx "ContraryChairsModel" "age" "[I" ∈ zTbl) (hd : decode cc pc = .ok (.getfield idx, 3)) (kk : zJ x G nL Q cs sl (pc + 3) ls (zr G (zrf i 16) :: st) v) : zJ x G nL Q cs sl pc ls (zr G i :: st) v := z_getR F (c := 10) (C := RX10) (T := TX10) (N := 60) rfl uw_10 16 (by decide) (by decide +kernel) (by decide +kernel) hT hlink hd kk
theorem tc_10_16 : zchk 10 16 2 0 = true := by decide +kernel
theorem zg_10_17 {x : zCx} {G : zG} {cc : ByteArray} {nL : Nat} {own : String} {fr lo : Nat} {Q : State → Prop} {cs sl pc : Nat} {ls : List (Nat × Value)} {st : List Value} {v : zV} (F : zF x G cc nL own fr lo) {i idx : Nat} (hT : zty G i 1 10) (hlink : Cond.fieldLink own idx "ContraryChairsModel" "readSeat" "[I" ∈ zTbl) (hd : decode cc pc = .ok (.getfield idx, 3)) (kk : zJ x G nL Q cs sl (pc + 3) ls (zr G (zrf i 17) :: st) v) : zJ x G nL Q cs sl pc ls (zr G i :: st) v := z_getR F (c := 10) (C := RX10) (T := TX10) (N := 60) rfl uw_10 17 (by decide) (by decide +kernel) (by decide +kernel) hT hlink hd kk
theorem tc_10_17 : zchk 10 17 2 0 = true := by decide +kernel
theorem zg_10_18 {x : zCx} {G : zG} {cc : ByteArray} {nL : Nat} {own : String} {fr lo : Nat} {Q : State → Prop} {cs sl pc : Nat} {ls : List (Nat × Value)} {st : List Value} {v : zV} (F : zF x G cc nL own fr lo) {i idx : Nat} (hT : zty G i 1 10) (hlink : Cond.fieldLink own idx "ContraryChairsModel" "seat" "[I" ∈ zTbl) (hd : decode cc pc = .ok (.getfield idx, 3)) (kk : zJ x G nL Q cs sl (pc + 3) ls (zr G (zrf i 18) :: st) v) : zJ x G nL Q cs sl pc ls (zr G i :: st) v := z_getR F (c := 10) (C := RX10) (T := TX10) (N := 60) rfl uw_10 18 (by decide) (by decide +kernel) (by decide +kernel) hT hlink hd kk
theorem tc_10_18 : zchk 10 18 2 0 = true := by decide +kernel
theorem zg_10_19 {x : zCx} {G : zG} {cc : ByteArray} {nL : Nat} {own : String} {fr lo : Nat} {Q : State → Prop} {cs sl pc : Nat} {ls : List (Nat × Value)} {st : List Value} {v : zV} (F : zF x G cc nL own fr lo) {i idx : Nat} (hT : zty G i 1 10) (hlink : Cond.fieldLink own idx "ContraryChairsModel" "readBelief" "[[I" ∈ zTbl) (hd : decode cc pc = .ok (.getfield idx, 3)) (kk : zJ x G nL Q cs sl (pc + 3) ls (zr G (zrf i 19) :: st) v) : zJ x G nL Q cs sl pc ls (zr G i :: st) v := z_getR F (c := 10) (C := RX10) (T := TX10) (N := 60) rfl uw_10 19 (by decide) (by decide +kernel) (by decide +kernel) hT hlink hd kk
theorem tc_10_19 : zchk 10 19 2 3 = true := by decide +kernel
theorem zg_10_20 {x : zCx} {G : zG} {cc : ByteArray} {nL : Nat} {own : String} {fr lo : Nat} {Q : State → Prop} {cs sl pc : Nat} {ls : List (Nat × Value)} {st : List Value} {v : zV} (F : zF x G cc nL own fr lo) {i idx : Nat} (hT : zty G i 1 10) (hlink : Cond.fieldLink own idx "ContraryChairsModel" "belief" "[[I" ∈ zTbl) (hd : decode cc pc = .ok (.getfield idx, 3)) (kk : zJ x G nL Q cs sl (pc + 3) ls (zr G (zrf i 20) :: st) v) : zJ x G nL Q cs sl pc ls (zr G i :: st) v := z_getR F (c := 10) (C := RX10) (T := TX10) (N := 60) rfl uw_10 20 (by decide) (by decide +kernel) (by decide +kernel) hT hlink hd kk
theorem tc_10_20 : zchk 10 20 2 3 = true := by decide +kernel
theorem zg_10_21 {x : zCx} {G : zG} {cc : ByteArray} {nL : Nat} {own : String} {fr lo : Nat} {Q : State → Prop} {cs sl pc : Nat} {ls : List (Nat × Value)} {st : List Value} {v : zV} (F : zF x G cc nL own fr lo) {i idx : Nat} (hT : zty G i 1 10) (hlink : Cond.fieldLink own idx "ContraryChairsModel" "readDeath" "[[I" ∈ zTbl) (hd : decode cc pc = .ok (.getfield idx, 3)) (kk : zJ x G nL Q cs sl (pc + 3) ls (zr G (zrf i 21) :: st) v) : zJ x G nL Q cs sl pc ls (zr G i :: st) v := z_getR F (c := 10) (C := RX10) (T := TX10) (N := 60) rfl uw_10 21 (by decide) (by decide +kernel) (by decide +kernel) hT hlink hd kk
theorem tc_10_21 : zchk 10 21 2 3 = true := by decide +kernel
theorem zg_10_22 {x : zCx} {G : zG} {cc : ByteArray} {nL : Nat} {own : String} {fr lo : Nat} {Q : State → Prop} {cs sl pc : Nat} {ls : List (Nat × Value)} {st : List Value} {v : zV} (F : zF x G cc nL own fr lo) {i idx : Nat} (hT : zty G i 1 10) (hlink : Cond.fieldLink own idx "ContraryChairsModel" "death" "[[I" ∈ zTbl) (hd : decode cc pc = .ok (.getfield idx, 3)) (kk : zJ x G nL Q cs sl (pc + 3) ls (zr G (zrf i 22) :: st) v) : zJ x G nL Q cs sl pc ls (zr G i :: st) v := z_getR F (c := 10) (C := RX10) (T := TX10) (N := 60) rfl uw_10 22 (by decide) (by decide +kernel) (by decide +kernel) hT hlink hd kk
theorem tc_10_22 : zchk 10 22 2 3 = true := by decide +kernel
theorem zg_10_23 {x : zCx} {G : zG} {cc : ByteArray} {nL : Nat} {own : String} {fr lo : Nat} {Q : State → Prop} {cs sl pc : Nat} {ls : List (Nat × Value)} {st : List Value} {v : zV} (F : zF x G cc nL own fr lo) {i idx : Nat} (hT : zty G i 1 10) (hlink : Cond.fieldLink own idx "ContraryChairsModel" "readPraise" "[[I" ∈ zTbl) (hd : decode cc pc = .ok (.getfield idx, 3)) (kk : zJ x G nL Q cs sl (pc + 3) ls (zr G (zrf i 23) :: st) v) : zJ x G nL Q cs sl pc ls (zr G i :: st) v := z_getR F (c := 10) (C := RX10) (T := TX10) (N := 60) rfl uw_10 23 (by decide) (by decide +kernel) (by decide +kernel) hT hlink hd kk
theorem tc_10_23 : zchk 10 23 2 3 = true := by decide +kernel
theorem zg_10_24 {x : zCx} {G : zG} {cc : ByteArray} {nL : Nat} {own : String} {fr lo : Nat} {Q : State → Prop} {cs sl pc : Nat} {ls : List (Nat × Value)} {st : List Value} {v : zV} (F : zF x G cc nL own fr lo) {i idx : Nat} (hT : zty G i 1 10) (hlink : Cond.fieldLink own idx "ContraryChairsModel" "praise" "[[I" ∈ zTbl) (hd : decode cc pc = .ok (.getfield idx, 3)) (kk : zJ x G nL Q cs sl (pc + 3) ls (zr G (zrf i 24) :: st) v) : zJ x G nL Q cs sl pc ls (zr G i :: st) v := z_getR F (c := 10) (C := RX10) (T := TX10) (N := 60) rfl uw_10 24 (by decide) (by decide +kernel) (by decide +kernel) hT hlink hd kk
theorem tc_10_24 : zchk 10 24 2 3 = true := by decide +kernel
theorem zg_10_25 {x : zCx} {G : zG} {cc : ByteArray} {nL : Nat} {own : String} {fr lo : Nat} {Q : State → Prop} {cs sl pc : Nat} {ls : List (Nat × Value)} {st : List Value} {v : zV} (F : zF x G cc nL own fr lo) {i idx : Nat} (hT : zty G i 1 10) (hlink : Cond.fieldLink own idx "ContraryChairsModel" "readChairs" "Z" ∈ zTbl) (hd : decode cc pc = .ok (.getfield idx, 3)) (kk : zJ x G nL Q cs sl (pc + 3) ls (.int (v i 25) :: st) v) : zJ x G nL Q cs sl pc ls (zr G i :: st) v := z_getI F (c := 10) (C := RX10) (T := TX10) (N := 60) rfl uw_10 25 (by decide) (by decide +kernel) (by decide +kernel) hT hlink hd kk
theorem zp_10_25 {x : zCx} {G : zG} {cc : ByteArray} {nL : Nat} {own : String} {fr lo : Nat} {Q : State → Prop} {cs sl pc : Nat} {ls : List (Nat × Value)} {st : List Value} {v : zV} (F : zF x G cc nL own fr lo) {i idx : Nat} {y : Int32} (hy : narrow .boolean (.int y) = .int y) (hf : fits .boolean (.int y) = true) (hT : zty G i 1 10) (hlink : Cond.fieldLink own idx "ContraryChairsModel" "readChairs" "Z" ∈ zTbl) (hd : decode cc pc = .ok (.putfield idx, 3)) (kk : zJ x G nL Q cs sl (pc + 3) ls st (zup v i 25 y)) : zJ x G nL Q cs sl pc ls (.int y :: zr G i :: st) v := z_putI F (c := 10) (C := RX10) (T := TX10) (N := 60) (ty := .boolean) tyX10 tyX10_ok nmX10 rfl uw_10 25 (by decide) (by decide +kernel) (by decide +kernel) rfl (by decide +kernel) hy hf hT hlink hd kk
theorem zg_10_26 {x : zCx} {G : zG} {cc : ByteArray} {nL : Nat} {own : String} {fr lo : Nat} {Q : State → Prop} {cs sl pc : Nat} {ls : List (Nat × Value)} {st : List Value} {v : zV} (F : zF x G cc nL own fr lo) {i idx : Nat} (hT : zty G i 1 10) (hlink : Cond.fieldLink own idx "ContraryChairsModel" "lawMany" "I" ∈ zTbl) (hd : decode cc pc = .ok (.getfield idx, 3)) (kk : zJ x G nL Q cs sl (pc + 3) ls (.int (v i 26) :: st) v) : zJ x G nL Q cs sl pc ls (zr G i :: st) v := z_getI F (c := 10) (C := RX10) (T := TX10) (N := 60) rfl uw_10 26 (by decide) (by decide +kernel) (by decide +kernel) hT hlink hd kk
theorem zp_10_26 {x : zCx} {G : zG} {cc : ByteArray} {nL : Nat} {own : String} {fr lo : Nat} {Q : State → Prop} {cs sl pc : Nat} {ls : List (Nat × Value)} {st : List Value} {v : zV} (F : zF x G cc nL own fr lo) {i idx : Nat} {y : Int32} (hT : zty G i 1 10) (hlink : Cond.fieldLink own idx "ContraryChairsModel" "lawMany" "I" ∈ zTbl) (hd : decode cc pc = .ok (.putfield idx, 3)) (kk : zJ x G nL Q cs sl (pc + 3) ls st (zup v i 26 y)) : zJ x G nL Q cs sl pc ls (.int y :: zr G i :: st) v := z_putI F (c := 10) (C := RX10) (T := TX10) (N := 60) (ty := .int) tyX10 tyX10_ok nmX10 rfl uw_10 26 (by decide) (by decide +kernel) (by decide +kernel) rfl (by decide +kernel) rfl rfl hT hlink hd kk
theorem zg_10_27 {x : zCx} {G : zG} {cc : ByteArray} {nL : Nat} {own : String} {fr lo : Nat} {Q : State → Prop} {cs sl pc : Nat} {ls : List (Nat × Value)} {st : List Value} {v : zV} (F : zF x G cc nL own fr lo) {i idx : Nat} (hT : zty G i 1 10) (hlink : Cond.fieldLink own idx "ContraryChairsModel" "readLawMany" "I" ∈ zTbl) (hd : decode cc pc = .ok (.getfield idx, 3)) (kk : zJ x G nL Q cs sl (pc + 3) ls (.int (v i 27) :: st) v) : zJ x G nL Q cs sl pc ls (zr G i :: st) v := z_getI F (c := 10) (C := RX10) (T := TX10) (N := 60) rfl uw_10 27 (by decide) (by decide +kernel) (by decide +kernel) hT hlink hd kk
theorem zp_10_27 {x : zCx} {G : zG} {cc : ByteArray} {nL : Nat} {own : String} {fr lo : Nat} {Q : State → Prop} {cs sl pc : Nat} {ls : List (Nat × Value)} {st : List Value} {v : zV} (F : zF x G cc nL own fr lo) {i idx : Nat} {y : Int32} (hT : zty G i 1 10) (hlink : Cond.fieldLink own idx "ContraryChairsModel" "readLawMany" "I" ∈ zTbl) (hd : decode cc pc = .ok (.putfield idx, 3)) (kk : zJ x G nL Q cs sl (pc + 3) ls st (zup v i 27 y)) : zJ x G nL Q cs sl pc ls (.int y :: zr G i :: st) v := z_putI F (c := 10) (C := RX10) (T := TX10) (N := 60) (ty := .int) tyX10 tyX10_ok nmX10 rfl uw_10 27 (by decide) (by decide +kernel) (by decide +kernel) rfl (by decide +kernel) rfl rfl hT hlink hd kk
theorem zg_10_28 {x : zCx} {G : zG} {cc : ByteArray} {nL : Nat} {own : String} {fr lo : Nat} {Q : State → Prop} {cs sl pc : Nat} {ls : List (Nat × Value)} {st : List Value} {v : zV} (F : zF x G cc nL own fr lo) {i idx : Nat} (hT : zty G i 1 10) (hlink : Cond.fieldLink own idx "ContraryChairsModel" "law" "[[I" ∈ zTbl) (hd : decode cc pc = .ok (.getfield idx, 3)) (kk : zJ x G nL Q cs sl (pc + 3) ls (zr G (zrf i 28) :: st) v) : zJ x G nL Q cs sl pc ls (zr G i :: st) v := z_getR F (c := 10) (C := RX10) (T := TX10) (N := 60) rfl uw_10 28 (by decide) (by decide +kernel) (by decide +kernel) hT hlink hd kk
theorem tc_10_28 : zchk 10 28 2 3 = true := by decide +kernel
theorem zg_10_29 {x : zCx} {G : zG} {cc : ByteArray} {nL : Nat} {own : String} {fr lo : Nat} {Q : State → Prop} {cs sl pc : Nat} {ls : List (Nat × Value)} {st : List Value} {v : zV} (F : zF x G cc nL own fr lo) {i idx : Nat} (hT : zty G i 1 10) (hlink : Cond.fieldLink own idx "ContraryChairsModel" "readLaw" "[[I" ∈ zTbl) (hd : decode cc pc = .ok (.getfield idx, 3)) (kk : zJ x G nL Q cs sl (pc + 3) ls (zr G (zrf i 29) :: st) v) : zJ x G nL Q cs sl pc ls (zr G i :: st) v := z_getR F (c := 10) (C := RX10) (T := TX10) (N := 60) rfl uw_10 29 (by decide) (by decide +kernel) (by decide +kernel) hT hlink hd kk
theorem tc_10_29 : zchk 10 29 2 3 = true := by decide +kernel
theorem zg_10_30 {x : zCx} {G : zG} {cc : ByteArray} {nL : Nat} {own : String} {fr lo : Nat} {Q : State → Prop} {cs sl pc : Nat} {ls : List (Nat × Value)} {st : List Value} {v : zV} (F : zF x G cc nL own fr lo) {i idx : Nat} (hT : zty G i 1 10) (hlink : Cond.fieldLink own idx "ContraryChairsModel" "book" "[[I" ∈ zTbl) (hd : decode cc pc = .ok (.getfield idx, 3)) (kk : zJ x G nL Q cs sl (pc + 3) ls (zr G (zrf i 30) :: st) v) : zJ x G nL Q cs sl pc ls (zr G i :: st) v := z_getR F (c := 10) (C := RX10) (T := TX10) (N := 60) rfl uw_10 30 (by decide) (by decide +kernel) (by decide +kernel) hT hlink hd kk
theorem tc_10_30 : zchk 10 30 2 3 = true := by decide +kernel
theorem zg_10_31 {x : zCx} {G : zG} {cc : ByteArray} {nL : Nat} {own : String} {fr lo : Nat} {Q : State → Prop} {cs sl pc : Nat} {ls : List (Nat × Value)} {st : List Value} {v : zV} (F : zF x G cc nL own fr lo) {i idx : Nat} (hT : zty G i 1 10) (hlink : Cond.fieldLink own idx "ContraryChairsModel" "readBook" "[[I" ∈ zTbl) (hd : decode cc pc = .ok (.getfield idx, 3)) (kk : zJ x G nL Q cs sl (pc + 3) ls (zr G (zrf i 31) :: st) v) : zJ x G nL Q cs sl pc ls (zr G i :: st) v := z_getR F (c := 10) (C := RX10) (T := TX10) (N := 60) rfl uw_10 31 (by decide) (by decide +kernel) (by decide +kernel) hT hlink hd kk
theorem tc_10_31 : zchk 10 31 2 3 = true := by decide +kernel
theorem zg_10_32 {x : zCx} {G : zG} {cc : ByteArray} {nL : Nat} {own : String} {fr lo : Nat} {Q : State → Prop} {cs sl pc : Nat} {ls : List (Nat × Value)} {st : List Value} {v : zV} (F : zF x G cc nL own fr lo) {i idx : Nat} (hT : zty G i 1 10) (hlink : Cond.fieldLink own idx "ContraryChairsModel" "kept" "[[I" ∈ zTbl) (hd : decode cc pc = .ok (.getfield idx, 3)) (kk : zJ x G nL Q cs sl (pc + 3) ls (zr G (zrf i 32) :: st) v) : zJ x G nL Q cs sl pc ls (zr G i :: st) v := z_getR F (c := 10) (C := RX10) (T := TX10) (N := 60) rfl uw_10 32 (by decide) (by decide +kernel) (by decide +kernel) hT hlink hd kk
theorem tc_10_32 : zchk 10 32 2 3 = true := by decide +kernel
theorem zg_10_33 {x : zCx} {G : zG} {cc : ByteArray} {nL : Nat} {own : String} {fr lo : Nat} {Q : State → Prop} {cs sl pc : Nat} {ls : List (Nat × Value)} {st : List Value} {v : zV} (F : zF x G cc nL own fr lo) {i idx : Nat} (hT : zty G i 1 10) (hlink : Cond.fieldLink own idx "ContraryChairsModel" "stack" "[I" ∈ zTbl) (hd : decode cc pc = .ok (.getfield idx, 3)) (kk : zJ x G nL Q cs sl (pc + 3) ls (zr G (zrf i 33) :: st) v) : zJ x G nL Q cs sl pc ls (zr G i :: st) v := z_getR F (c := 10) (C := RX10) (T := TX10) (N := 60) rfl uw_10 33 (by decide) (by decide +kernel) (by decide +kernel) hT hlink hd kk
theorem tc_10_33 : zchk 10 33 2 0 = true := by decide +kernel
theorem zg_10_34 {x : zCx} {G : zG} {cc : ByteArray} {nL : Nat} {own : String} {fr lo : Nat} {Q : State → Prop} {cs sl pc : Nat} {ls : List (Nat × Value)} {st : List Value} {v : zV} (F : zF x G cc nL own fr lo) {i idx : Nat} (hT : zty G i 1 10) (hlink : Cond.fieldLink own idx "ContraryChairsModel" "known" "[I" ∈ zTbl) (hd : decode cc pc = .ok (.getfield idx, 3)) (kk : zJ x G nL Q cs sl (pc + 3) ls (zr G (zrf i 34) :: st) v) : zJ x G nL Q cs sl pc ls (zr G i :: st) v := z_getR F (c := 10) (C := RX10) (T := TX10) (N := 60) rfl uw_10 34 (by decide) (by decide +kernel) (by decide +kernel) hT hlink hd kk
theorem tc_10_34 : zchk 10 34 2 0 = true := by decide +kernel
theorem zg_10_35 {x : zCx} {G : zG} {cc : ByteArray} {nL : Nat} {own : String} {fr lo : Nat} {Q : State → Prop} {cs sl pc : Nat} {ls : List (Nat × Value)} {st : List Value} {v : zV} (F : zF x G cc nL own fr lo) {i idx : Nat} (hT : zty G i 1 10) (hlink : Cond.fieldLink own idx "ContraryChairsModel" "now" "[I" ∈ zTbl) (hd : decode cc pc = .ok (.getfield idx, 3)) (kk : zJ x G nL Q cs sl (pc + 3) ls (zr G (zrf i 35) :: st) v) : zJ x G nL Q cs sl pc ls (zr G i :: st) v := z_getR F (c := 10) (C := RX10) (T := TX10) (N := 60) rfl uw_10 35 (by decide) (by decide +kernel) (by decide +kernel) hT hlink hd kk
theorem tc_10_35 : zchk 10 35 2 0 = true := by decide +kernel
theorem zg_10_36 {x : zCx} {G : zG} {cc : ByteArray} {nL : Nat} {own : String} {fr lo : Nat} {Q : State → Prop} {cs sl pc : Nat} {ls : List (Nat × Value)} {st : List Value} {v : zV} (F : zF x G cc nL own fr lo) {i idx : Nat} (hT : zty G i 1 10) (hlink : Cond.fieldLink own idx "ContraryChairsModel" "base" "[I" ∈ zTbl) (hd : decode cc pc = .ok (.getfield idx, 3)) (kk : zJ x G nL Q cs sl (pc + 3) ls (zr G (zrf i 36) :: st) v) : zJ x G nL Q cs sl pc ls (zr G i :: st) v := z_getR F (c := 10) (C := RX10) (T := TX10) (N := 60) rfl uw_10 36 (by decide) (by decide +kernel) (by decide +kernel) hT hlink hd kk
theorem tc_10_36 : zchk 10 36 2 0 = true := by decide +kernel
theorem zg_10_37 {x : zCx} {G : zG} {cc : ByteArray} {nL : Nat} {own : String} {fr lo : Nat} {Q : State → Prop} {cs sl pc : Nat} {ls : List (Nat × Value)} {st : List Value} {v : zV} (F : zF x G cc nL own fr lo) {i idx : Nat} (hT : zty G i 1 10) (hlink : Cond.fieldLink own idx "ContraryChairsModel" "begun" "[I" ∈ zTbl) (hd : decode cc pc = .ok (.getfield idx, 3)) (kk : zJ x G nL Q cs sl (pc + 3) ls (zr G (zrf i 37) :: st) v) : zJ x G nL Q cs sl pc ls (zr G i :: st) v := z_getR F (c := 10) (C := RX10) (T := TX10) (N := 60) rfl uw_10 37 (by decide) (by decide +kernel) (by decide +kernel) hT hlink hd kk
theorem tc_10_37 : zchk 10 37 2 0 = true := by decide +kernel
theorem zg_10_38 {x : zCx} {G : zG} {cc : ByteArray} {nL : Nat} {own : String} {fr lo : Nat} {Q : State → Prop} {cs sl pc : Nat} {ls : List (Nat × Value)} {st : List Value} {v : zV} (F : zF x G cc nL own fr lo) {i idx : Nat} (hT : zty G i 1 10) (hlink : Cond.fieldLink own idx "ContraryChairsModel" "trial" "[I" ∈ zTbl) (hd : decode cc pc = .ok (.getfield idx, 3)) (kk : zJ x G nL Q cs sl (pc + 3) ls (zr G (zrf i 38) :: st) v) : zJ x G nL Q cs sl pc ls (zr G i :: st) v := z_getR F (c := 10) (C := RX10) (T := TX10) (N := 60) rfl uw_10 38 (by decide) (by decide +kernel) (by decide +kernel) hT hlink hd kk
theorem tc_10_38 : zchk 10 38 2 0 = true := by decide +kernel
theorem zg_10_39 {x : zCx} {G : zG} {cc : ByteArray} {nL : Nat} {own : String} {fr lo : Nat} {Q : State → Prop} {cs sl pc : Nat} {ls : List (Nat × Value)} {st : List Value} {v : zV} (F : zF x G cc nL own fr lo) {i idx : Nat} (hT : zty G i 1 10) (hlink : Cond.fieldLink own idx "ContraryChairsModel" "other" "[I" ∈ zTbl) (hd : decode cc pc = .ok (.getfield idx, 3)) (kk : zJ x G nL Q cs sl (pc + 3) ls (zr G (zrf i 39) :: st) v) : zJ x G nL Q cs sl pc ls (zr G i :: st) v := z_getR F (c := 10) (C := RX10) (T := TX10) (N := 60) rfl uw_10 39 (by decide) (by decide +kernel) (by decide +kernel) hT hlink hd kk
theorem tc_10_39 : zchk 10 39 2 0 = true := by decide +kernel
theorem zg_10_40 {x : zCx} {G : zG} {cc : ByteArray} {nL : Nat} {own : String} {fr lo : Nat} {Q : State → Prop} {cs sl pc : Nat} {ls : List (Nat × Value)} {st : List Value} {v : zV} (F : zF x G cc nL own fr lo) {i idx : Nat} (hT : zty G i 1 10) (hlink : Cond.fieldLink own idx "ContraryChairsModel" "lines" "I" ∈ zTbl) (hd : decode cc pc = .ok (.getfield idx, 3)) (kk : zJ x G nL Q cs sl (pc + 3) ls (.int (v i 40) :: st) v) : zJ x G nL Q cs sl pc ls (zr G i :: st) v := z_getI F (c := 10) (C := RX10) (T := TX10) (N := 60) rfl uw_10 40 (by decide) (by decide +kernel) (by decide +kernel) hT hlink hd kk
theorem zp_10_40 {x : zCx} {G : zG} {cc : ByteArray} {nL : Nat} {own : String} {fr lo : Nat} {Q : State → Prop} {cs sl pc : Nat} {ls : List (Nat × Value)} {st : List Value} {v : zV} (F : zF x G cc nL own fr lo) {i idx : Nat} {y : Int32} (hT : zty G i 1 10) (hlink : Cond.fieldLink own idx "ContraryChairsModel" "lines" "I" ∈ zTbl) (hd : decode cc pc = .ok (.putfield idx, 3)) (kk : zJ x G nL Q cs sl (pc + 3) ls st (zup v i 40 y)) : zJ x G nL Q cs sl pc ls (.int y :: zr G i :: st) v := z_putI F (c := 10) (C := RX10) (T := TX10) (N := 60) (ty := .int) tyX10 tyX10_ok nmX10 rfl uw_10 40 (by decide) (by decide +kernel) (by decide +kernel) rfl (by decide +kernel) rfl rfl hT hlink hd kk
theorem zg_10_41 {x : zCx} {G : zG} {cc : ByteArray} {nL : Nat} {own : String} {fr lo : Nat} {Q : State → Prop} {cs sl pc : Nat} {ls : List (Nat × Value)} {st : List Value} {v : zV} (F : zF x G cc nL own fr lo) {i idx : Nat} (hT : zty G i 1 10) (hlink : Cond.fieldLink own idx "ContraryChairsModel" "since" "I" ∈ zTbl) (hd : decode cc pc = .ok (.getfield idx, 3)) (kk : zJ x G nL Q cs sl (pc + 3) ls (.int (v i 41) :: st) v) : zJ x G nL Q cs sl pc ls (zr G i :: st) v := z_getI F (c := 10) (C := RX10) (T := TX10) (N := 60) rfl uw_10 41 (by decide) (by decide +kernel) (by decide +kernel) hT hlink hd kk
theorem zp_10_41 {x : zCx} {G : zG} {cc : ByteArray} {nL : Nat} {own : String} {fr lo : Nat} {Q : State → Prop} {cs sl pc : Nat} {ls : List (Nat × Value)} {st : List Value} {v : zV} (F : zF x G cc nL own fr lo) {i idx : Nat} {y : Int32} (hT : zty G i 1 10) (hlink : Cond.fieldLink own idx "ContraryChairsModel" "since" "I" ∈ zTbl) (hd : decode cc pc = .ok (.putfield idx, 3)) (kk : zJ x G nL Q cs sl (pc + 3) ls st (zup v i 41 y)) : zJ x G nL Q cs sl pc ls (.int y :: zr G i :: st) v := z_putI F (c := 10) (C := RX10) (T := TX10) (N := 60) (ty := .int) tyX10 tyX10_ok nmX10 rfl uw_10 41 (by decide) (by decide +kernel) (by decide +kernel) rfl (by decide +kernel) rfl rfl hT hlink hd kk
theorem zg_10_42 {x : zCx} {G : zG} {cc : ByteArray} {nL : Nat} {own : String} {fr lo : Nat} {Q : State → Prop} {cs sl pc : Nat} {ls : List (Nat × Value)} {st : List Value} {v : zV} (F : zF x G cc nL own fr lo) {i idx : Nat} (hT : zty G i 1 10) (hlink : Cond.fieldLink own idx "ContraryChairsModel" "images" "I" ∈ zTbl) (hd : decode cc pc = .ok (.getfield idx, 3)) (kk : zJ x G nL Q cs sl (pc + 3) ls (.int (v i 42) :: st) v) : zJ x G nL Q cs sl pc ls (zr G i :: st) v := z_getI F (c := 10) (C := RX10) (T := TX10) (N := 60) rfl uw_10 42 (by decide) (by decide +kernel) (by decide +kernel) hT hlink hd kk
theorem zp_10_42 {x : zCx} {G : zG} {cc : ByteArray} {nL : Nat} {own : String} {fr lo : Nat} {Q : State → Prop} {cs sl pc : Nat} {ls : List (Nat × Value)} {st : List Value} {v : zV} (F : zF x G cc nL own fr lo) {i idx : Nat} {y : Int32} (hT : zty G i 1 10) (hlink : Cond.fieldLink own idx "ContraryChairsModel" "images" "I" ∈ zTbl) (hd : decode cc pc = .ok (.putfield idx, 3)) (kk : zJ x G nL Q cs sl (pc + 3) ls st (zup v i 42 y)) : zJ x G nL Q cs sl pc ls (.int y :: zr G i :: st) v := z_putI F (c := 10) (C := RX10) (T := TX10) (N := 60) (ty := .int) tyX10 tyX10_ok nmX10 rfl uw_10 42 (by decide) (by decide +kernel) (by decide +kernel) rfl (by decide +kernel) rfl rfl hT hlink hd kk
theorem zg_10_43 {x : zCx} {G : zG} {cc : ByteArray} {nL : Nat} {own : String} {fr lo : Nat} {Q : State → Prop} {cs sl pc : Nat} {ls : List (Nat × Value)} {st : List Value} {v : zV} (F : zF x G cc nL own fr lo) {i idx : Nat} (hT : zty G i 1 10) (hlink : Cond.fieldLink own idx "ContraryChairsModel" "hope" "[[I" ∈ zTbl) (hd : decode cc pc = .ok (.getfield idx, 3)) (kk : zJ x G nL Q cs sl (pc + 3) ls (zr G (zrf i 43) :: st) v) : zJ x G nL Q cs sl pc ls (zr G i :: st) v := z_getR F (c := 10) (C := RX10) (T := TX10) (N := 60) rfl uw_10 43 (by decide) (by decide +kernel) (by decide +kernel) hT hlink hd kk
theorem tc_10_43 : zchk 10 43 2 3 = true := by decide +kernel
theorem zg_10_44 {x : zCx} {G : zG} {cc : ByteArray} {nL : Nat} {own : String} {fr lo : Nat} {Q : State → Prop} {cs sl pc : Nat} {ls : List (Nat × Value)} {st : List Value} {v : zV} (F : zF x G cc nL own fr lo) {i idx : Nat} (hT : zty G i 1 10) (hlink : Cond.fieldLink own idx "ContraryChairsModel" "hopes" "I" ∈ zTbl) (hd : decode cc pc = .ok (.getfield idx, 3)) (kk : zJ x G nL Q cs sl (pc + 3) ls (.int (v i 44) :: st) v) : zJ x G nL Q cs sl pc ls (zr G i :: st) v := z_getI F (c := 10) (C := RX10) (T := TX10) (N := 60) rfl uw_10 44 (by decide) (by decide +kernel) (by decide +kernel) hT hlink hd kk
theorem zp_10_44 {x : zCx} {G : zG} {cc : ByteArray} {nL : Nat} {own : String} {fr lo : Nat} {Q : State → Prop} {cs sl pc : Nat} {ls : List (Nat × Value)} {st : List Value} {v : zV} (F : zF x G cc nL own fr lo) {i idx : Nat} {y : Int32} (hT : zty G i 1 10) (hlink : Cond.fieldLink own idx "ContraryChairsModel" "hopes" "I" ∈ zTbl) (hd : decode cc pc = .ok (.putfield idx, 3)) (kk : zJ x G nL Q cs sl (pc + 3) ls st (zup v i 44 y)) : zJ x G nL Q cs sl pc ls (.int y :: zr G i :: st) v := z_putI F (c := 10) (C := RX10) (T := TX10) (N := 60) (ty := .int) tyX10 tyX10_ok nmX10 rfl uw_10 44 (by decide) (by decide +kernel) (by decide +kernel) rfl (by decide +kernel) rfl rfl hT hlink hd kk
theorem zg_10_45 {x : zCx} {G : zG} {cc : ByteArray} {nL : Nat} {own : String} {fr lo : Nat} {Q : State → Prop} {cs sl pc : Nat} {ls : List (Nat × Value)} {st : List Value} {v : zV} (F : zF x G cc nL own fr lo) {i idx : Nat} (hT : zty G i 1 10) (hlink : Cond.fieldLink own idx "ContraryChairsModel" "moreYear" "I" ∈ zTbl) (hd : decode cc pc = .ok (.getfield idx, 3)) (kk : zJ x G nL Q cs sl (pc + 3) ls (.int (v i 45) :: st) v) : zJ x G nL Q cs sl pc ls (zr G i :: st) v := z_getI F (c := 10) (C := RX10) (T := TX10) (N := 60) rfl uw_10 45 (by decide) (by decide +kernel) (by decide +kernel) hT hlink hd kk
theorem zp_10_45 {x : zCx} {G : zG} {cc : ByteArray} {nL : Nat} {own : String} {fr lo : Nat} {Q : State → Prop} {cs sl pc : Nat} {ls : List (Nat × Value)} {st : List Value} {v : zV} (F : zF x G cc nL own fr lo) {i idx : Nat} {y : Int32} (hT : zty G i 1 10) (hlink : Cond.fieldLink own idx "ContraryChairsModel" "moreYear" "I" ∈ zTbl) (hd : decode cc pc = .ok (.putfield idx, 3)) (kk : zJ x G nL Q cs sl (pc + 3) ls st (zup v i 45 y)) : zJ x G nL Q cs sl pc ls (.int y :: zr G i :: st) v := z_putI F (c := 10) (C := RX10) (T := TX10) (N := 60) (ty := .int) tyX10 tyX10_ok nmX10 rfl uw_10 45 (by decide) (by decide +kernel) (by decide +kernel) rfl (by decide +kernel) rfl rfl hT hlink hd kk
theorem zg_10_46 {x : zCx} {G : zG} {cc : ByteArray} {nL : Nat} {own : String} {fr lo : Nat} {Q : State → Prop} {cs sl pc : Nat} {ls : List (Nat × Value)} {st : List Value} {v : zV} (F : zF x G cc nL own fr lo) {i idx : Nat} (hT : zty G i 1 10) (hlink : Cond.fieldLink own idx "ContraryChairsModel" "moreMan" "I" ∈ zTbl) (hd : decode cc pc = .ok (.getfield idx, 3)) (kk : zJ x G nL Q cs sl (pc + 3) ls (.int (v i 46) :: st) v) : zJ x G nL Q cs sl pc ls (zr G i :: st) v := z_getI F (c := 10) (C := RX10) (T := TX10) (N := 60) rfl uw_10 46 (by decide) (by decide +kernel) (by decide +kernel) hT hlink hd kk
theorem zp_10_46 {x : zCx} {G : zG} {cc : ByteArray} {nL : Nat} {own : String} {fr lo : Nat} {Q : State → Prop} {cs sl pc : Nat} {ls : List (Nat × Value)} {st : List Value} {v : zV} (F : zF x G cc nL own fr lo) {i idx : Nat} {y : Int32} (hT : zty G i 1 10) (hlink : Cond.fieldLink own idx "ContraryChairsModel" "moreMan" "I" ∈ zTbl) (hd : decode cc pc = .ok (.putfield idx, 3)) (kk : zJ x G nL Q cs sl (pc + 3) ls st (zup v i 46 y)) : zJ x G nL Q cs sl pc ls (.int y :: zr G i :: st) v := z_putI F (c := 10) (C := RX10) (T := TX10) (N := 60) (ty := .int) tyX10 tyX10_ok nmX10 rfl uw_10 46 (by decide) (by decide +kernel) (by decide +kernel) rfl (by decide +kernel) rfl rfl hT hlink hd kk
theorem zg_10_47 {x : zCx} {G : zG} {cc : ByteArray} {nL : Nat} {own : String} {fr lo : Nat} {Q : State → Prop} {cs sl pc : Nat} {ls : List (Nat × Value)} {st : List Value} {v : zV} (F : zF x G cc nL own fr lo) {i idx : Nat} (hT : zty G i 1 10) (hlink : Cond.fieldLink own idx "ContraryChairsModel" "lotsBelow" "I" ∈ zTbl) (hd : decode cc pc = .ok (.getfield idx, 3)) (kk : zJ x G nL Q cs sl (pc + 3) ls (.int (v i 47) :: st) v) : zJ x G nL Q cs sl pc ls (zr G i :: st) v := z_getI F (c := 10) (C := RX10) (T := TX10) (N := 60) rfl uw_10 47 (by decide) (by decide +kernel) (by decide +kernel) hT hlink hd kk
theorem zp_10_47 {x : zCx} {G : zG} {cc : ByteArray} {nL : Nat} {own : String} {fr lo : Nat} {Q : State → Prop} {cs sl pc : Nat} {ls : List (Nat × Value)} {st : List Value} {v : zV} (F : zF x G cc nL own fr lo) {i idx : Nat} {y : Int32} (hT : zty G i 1 10) (hlink : Cond.fieldLink own idx "ContraryChairsModel" "lotsBelow" "I" ∈ zTbl) (hd : decode cc pc = .ok (.putfield idx, 3)) (kk : zJ x G nL Q cs sl (pc + 3) ls st (zup v i 47 y)) : zJ x G nL Q cs sl pc ls (.int y :: zr G i :: st) v := z_putI F (c := 10) (C := RX10) (T := TX10) (N := 60) (ty := .int) tyX10 tyX10_ok nmX10 rfl uw_10 47 (by decide) (by decide +kernel) (by decide +kernel) rfl (by decide +kernel) rfl rfl hT hlink hd kk
theorem zg_10_48 {x : zCx} {G : zG} {cc : ByteArray} {nL : Nat} {own : String} {fr lo : Nat} {Q : State → Prop} {cs sl pc : Nat} {ls : List (Nat × Value)} {st : List Value} {v : zV} (F : zF x G cc nL own fr lo) {i idx : Nat} (hT : zty G i 1 10) (hlink : Cond.fieldLink own idx "ContraryChairsModel" "lots" "I" ∈ zTbl) (hd : decode cc pc = .ok (.getfield idx, 3)) (kk : zJ x G nL Q cs sl (pc + 3) ls (.int (v i 48) :: st) v) : zJ x G nL Q cs sl pc ls (zr G i :: st) v := z_getI F (c := 10) (C := RX10) (T := TX10) (N := 60) rfl uw_10 48 (by decide) (by decide +kernel) (by decide +kernel) hT hlink hd kk
theorem zp_10_48 {x : zCx} {G : zG} {cc : ByteArray} {nL : Nat} {own : String} {fr lo : Nat} {Q : State → Prop} {cs sl pc : Nat} {ls : List (Nat × Value)} {st : List Value} {v : zV} (F : zF x G cc nL own fr lo) {i idx : Nat} {y : Int32} (hT : zty G i 1 10) (hlink : Cond.fieldLink own idx "ContraryChairsModel" "lots" "I" ∈ zTbl) (hd : decode cc pc = .ok (.putfield idx, 3)) (kk : zJ x G nL Q cs sl (pc + 3) ls st (zup v i 48 y)) : zJ x G nL Q cs sl pc ls (.int y :: zr G i :: st) v := z_putI F (c := 10) (C := RX10) (T := TX10) (N := 60) (ty := .int) tyX10 tyX10_ok nmX10 rfl uw_10 48 (by decide) (by decide +kernel) (by decide +kernel) rfl (by decide +kernel) rfl rfl hT hlink hd kk
theorem zg_10_49 {x : zCx} {G : zG} {cc : ByteArray} {nL : Nat} {own : String} {fr lo : Nat} {Q : State → Prop} {cs sl pc : Nat} {ls : List (Nat × Value)} {st : List Value} {v : zV} (F : zF x G cc nL own fr lo) {i idx : Nat} (hT : zty G i 1 10) (hlink : Cond.fieldLink own idx "ContraryChairsModel" "doomedBy" "[I" ∈ zTbl) (hd : decode cc pc = .ok (.getfield idx, 3)) (kk : zJ x G nL Q cs sl (pc + 3) ls (zr G (zrf i 49) :: st) v) : zJ x G nL Q cs sl pc ls (zr G i :: st) v := z_getR F (c := 10) (C := RX10) (T := TX10) (N := 60) rfl uw_10 49 (by decide) (by decide +kernel) (by decide +kernel) hT hlink hd kk
theorem tc_10_49 : zchk 10 49 2 0 = true := by decide +kernel
theorem zg_10_50 {x : zCx} {G : zG} {cc : ByteArray} {nL : Nat} {own : String} {fr lo : Nat} {Q : State → Prop} {cs sl pc : Nat} {ls : List (Nat × Value)} {st : List Value} {v : zV} (F : zF x G cc nL own fr lo) {i idx : Nat} (hT : zty G i 1 10) (hlink : Cond.fieldLink own idx "ContraryChairsModel" "latest" "I" ∈ zTbl) (hd : decode cc pc = .ok (.getfield idx, 3)) (kk : zJ x G nL Q cs sl (pc + 3) ls (.int (v i 50) :: st) v) : zJ x G nL Q cs sl pc ls (zr G i :: st) v := z_getI F (c := 10) (C := RX10) (T := TX10) (N := 60) rfl uw_10 50 (by decide) (by decide +kernel) (by decide +kernel) hT hlink hd kk
theorem zp_10_50 {x : zCx} {G : zG} {cc : ByteArray} {nL : Nat} {own : String} {fr lo : Nat} {Q : State → Prop} {cs sl pc : Nat} {ls : List (Nat × Value)} {st : List Value} {v : zV} (F : zF x G cc nL own fr lo) {i idx : Nat} {y : Int32} (hT : zty G i 1 10) (hlink : Cond.fieldLink own idx "ContraryChairsModel" "latest" "I" ∈ zTbl) (hd : decode cc pc = .ok (.putfield idx, 3)) (kk : zJ x G nL Q cs sl (pc + 3) ls st (zup v i 50 y)) : zJ x G nL Q cs sl pc ls (.int y :: zr G i :: st) v := z_putI F (c := 10) (C := RX10) (T := TX10) (N := 60) (ty := .int) tyX10 tyX10_ok nmX10 rfl uw_10 50 (by decide) (by decide +kernel) (by decide +kernel) rfl (by decide +kernel) rfl rfl hT hlink hd kk
theorem zg_10_51 {x : zCx} {G : zG} {cc : ByteArray} {nL : Nat} {own : String} {fr lo : Nat} {Q : State → Prop} {cs sl pc : Nat} {ls : List (Nat × Value)} {st : List Value} {v : zV} (F : zF x G cc nL own fr lo) {i idx : Nat} (hT : zty G i 1 10) (hlink : Cond.fieldLink own idx "ContraryChairsModel" "deep" "[[I" ∈ zTbl) (hd : decode cc pc = .ok (.getfield idx, 3)) (kk : zJ x G nL Q cs sl (pc + 3) ls (zr G (zrf i 51) :: st) v) : zJ x G nL Q cs sl pc ls (zr G i :: st) v := z_getR F (c := 10) (C := RX10) (T := TX10) (N := 60) rfl uw_10 51 (by decide) (by decide +kernel) (by decide +kernel) hT hlink hd kk
theorem tc_10_51 : zchk 10 51 2 3 = true := by decide +kernel
theorem zg_10_52 {x : zCx} {G : zG} {cc : ByteArray} {nL : Nat} {own : String} {fr lo : Nat} {Q : State → Prop} {cs sl pc : Nat} {ls : List (Nat × Value)} {st : List Value} {v : zV} (F : zF x G cc nL own fr lo) {i idx : Nat} (hT : zty G i 1 10) (hlink : Cond.fieldLink own idx "ContraryChairsModel" "fewest" "I" ∈ zTbl) (hd : decode cc pc = .ok (.getfield idx, 3)) (kk : zJ x G nL Q cs sl (pc + 3) ls (.int (v i 52) :: st) v) : zJ x G nL Q cs sl pc ls (zr G i :: st) v := z_getI F (c := 10) (C := RX10) (T := TX10) (N := 60) rfl uw_10 52 (by decide) (by decide +kernel) (by decide +kernel) hT hlink hd kk
theorem zp_10_52 {x : zCx} {G : zG} {cc : ByteArray} {nL : Nat} {own : String} {fr lo : Nat} {Q : State → Prop} {cs sl pc : Nat} {ls : List (Nat × Value)} {st : List Value} {v : zV} (F : zF x G cc nL own fr lo) {i idx : Nat} {y : Int32} (hT : zty G i 1 10) (hlink : Cond.fieldLink own idx "ContraryChairsModel" "fewest" "I" ∈ zTbl) (hd : decode cc pc = .ok (.putfield idx, 3)) (kk : zJ x G nL Q cs sl (pc + 3) ls st (zup v i 52 y)) : zJ x G nL Q cs sl pc ls (.int y :: zr G i :: st) v := z_putI F (c := 10) (C := RX10) (T := TX10) (N := 60) (ty := .int) tyX10 tyX10_ok nmX10 rfl uw_10 52 (by decide) (by decide +kernel) (by decide +kernel) rfl (by decide +kernel) rfl rfl hT hlink hd kk
theorem zg_10_53 {x : zCx} {G : zG} {cc : ByteArray} {nL : Nat} {own : String} {fr lo : Nat} {Q : State → Prop} {cs sl pc : Nat} {ls : List (Nat × Value)} {st : List Value} {v : zV} (F : zF x G cc nL own fr lo) {i idx : Nat} (hT : zty G i 1 10) (hlink : Cond.fieldLink own idx "ContraryChairsModel" "way" "I" ∈ zTbl) (hd : decode cc pc = .ok (.getfield idx, 3)) (kk : zJ x G nL Q cs sl (pc + 3) ls (.int (v i 53) :: st) v) : zJ x G nL Q cs sl pc ls (zr G i :: st) v := z_getI F (c := 10) (C := RX10) (T := TX10) (N := 60) rfl uw_10 53 (by decide) (by decide +kernel) (by decide +kernel) hT hlink hd kk
theorem zp_10_53 {x : zCx} {G : zG} {cc : ByteArray} {nL : Nat} {own : String} {fr lo : Nat} {Q : State → Prop} {cs sl pc : Nat} {ls : List (Nat × Value)} {st : List Value} {v : zV} (F : zF x G cc nL own fr lo) {i idx : Nat} {y : Int32} (hT : zty G i 1 10) (hlink : Cond.fieldLink own idx "ContraryChairsModel" "way" "I" ∈ zTbl) (hd : decode cc pc = .ok (.putfield idx, 3)) (kk : zJ x G nL Q cs sl (pc + 3) ls st (zup v i 53 y)) : zJ x G nL Q cs sl pc ls (.int y :: zr G i :: st) v := z_putI F (c := 10) (C := RX10) (T := TX10) (N := 60) (ty := .int) tyX10 tyX10_ok nmX10 rfl uw_10 53 (by decide) (by decide +kernel) (by decide +kernel) rfl (by decide +kernel) rfl rfl hT hlink hd kk
theorem zg_10_54 {x : zCx} {G : zG} {cc : ByteArray} {nL : Nat} {own : String} {fr lo : Nat} {Q : State → Prop} {cs sl pc : Nat} {ls : List (Nat × Value)} {st : List Value} {v : zV} (F : zF x G cc nL own fr lo) {i idx : Nat} (hT : zty G i 1 10) (hlink : Cond.fieldLink own idx "ContraryChairsModel" "brings" "[[I" ∈ zTbl) (hd : decode cc pc = .ok (.getfield idx, 3)) (kk : zJ x G nL Q cs sl (pc + 3) ls (zr G (zrf i 54) :: st) v) : zJ x G nL Q cs sl pc ls (zr G i :: st) v := z_getR F (c := 10) (C := RX10) (T := TX10) (N := 60) rfl uw_10 54 (by decide) (by decide +kernel) (by decide +kernel) hT hlink hd kk
theorem tc_10_54 : zchk 10 54 2 3 = true := by decide +kernel
theorem zg_10_55 {x : zCx} {G : zG} {cc : ByteArray} {nL : Nat} {own : String} {fr lo : Nat} {Q : State → Prop} {cs sl pc : Nat} {ls : List (Nat × Value)} {st : List Value} {v : zV} (F : zF x G cc nL own fr lo) {i idx : Nat} (hT : zty G i 1 10) (hlink : Cond.fieldLink own idx "ContraryChairsModel" "had" "[I" ∈ zTbl) (hd : decode cc pc = .ok (.getfield idx, 3)) (kk : zJ x G nL Q cs sl (pc + 3) ls (zr G (zrf i 55) :: st) v) : zJ x G nL Q cs sl pc ls (zr G i :: st) v := z_getR F (c := 10) (C := RX10) (T := TX10) (N := 60) rfl uw_10 55 (by decide) (by decide +kernel) (by decide +kernel) hT hlink hd kk
theorem tc_10_55 : zchk 10 55 2 0 = true := by decide +kernel
theorem zg_10_56 {x : zCx} {G : zG} {cc : ByteArray} {nL : Nat} {own : String} {fr lo : Nat} {Q : State → Prop} {cs sl pc : Nat} {ls : List (Nat × Value)} {st : List Value} {v : zV} (F : zF x G cc nL own fr lo) {i idx : Nat} (hT : zty G i 1 10) (hlink : Cond.fieldLink own idx "ContraryChairsModel" "always" "[I" ∈ zTbl) (hd : decode cc pc = .ok (.getfield idx, 3)) (kk : zJ x G nL Q cs sl (pc + 3) ls (zr G (zrf i 56) :: st) v) : zJ x G nL Q cs sl pc ls (zr G i :: st) v := z_getR F (c := 10) (C := RX10) (T := TX10) (N := 60) rfl uw_10 56 (by decide) (by decide +kernel) (by decide +kernel) hT hlink hd kk
theorem tc_10_56 : zchk 10 56 2 0 = true := by decide +kernel
theorem zg_10_57 {x : zCx} {G : zG} {cc : ByteArray} {nL : Nat} {own : String} {fr lo : Nat} {Q : State → Prop} {cs sl pc : Nat} {ls : List (Nat × Value)} {st : List Value} {v : zV} (F : zF x G cc nL own fr lo) {i idx : Nat} (hT : zty G i 1 10) (hlink : Cond.fieldLink own idx "ContraryChairsModel" "beliefWays" "I" ∈ zTbl) (hd : decode cc pc = .ok (.getfield idx, 3)) (kk : zJ x G nL Q cs sl (pc + 3) ls (.int (v i 57) :: st) v) : zJ x G nL Q cs sl pc ls (zr G i :: st) v := z_getI F (c := 10) (C := RX10) (T := TX10) (N := 60) rfl uw_10 57 (by decide) (by decide +kernel) (by decide +kernel) hT hlink hd kk
theorem zp_10_57 {x : zCx} {G : zG} {cc : ByteArray} {nL : Nat} {own : String} {fr lo : Nat} {Q : State → Prop} {cs sl pc : Nat} {ls : List (Nat × Value)} {st : List Value} {v : zV} (F : zF x G cc nL own fr lo) {i idx : Nat} {y : Int32} (hT : zty G i 1 10) (hlink : Cond.fieldLink own idx "ContraryChairsModel" "beliefWays" "I" ∈ zTbl) (hd : decode cc pc = .ok (.putfield idx, 3)) (kk : zJ x G nL Q cs sl (pc + 3) ls st (zup v i 57 y)) : zJ x G nL Q cs sl pc ls (.int y :: zr G i :: st) v := z_putI F (c := 10) (C := RX10) (T := TX10) (N := 60) (ty := .int) tyX10 tyX10_ok nmX10 rfl uw_10 57 (by decide) (by decide +kernel) (by decide +kernel) rfl (by decide +kernel) rfl rfl hT hlink hd kk
theorem zg_10_58 {x : zCx} {G : zG} {cc : ByteArray} {nL : Nat} {own : String} {fr lo : Nat} {Q : State → Prop} {cs sl pc : Nat} {ls : List (Nat × Value)} {st : List Value} {v : zV} (F : zF x G cc nL own fr lo) {i idx : Nat} (hT : zty G i 1 10) (hlink : Cond.fieldLink own idx "ContraryChairsModel" "beliefFirst" "I" ∈ zTbl) (hd : decode cc pc = .ok (.getfield idx, 3)) (kk : zJ x G nL Q cs sl (pc + 3) ls (.int (v i 58) :: st) v) : zJ x G nL Q cs sl pc ls (zr G i :: st) v := z_getI F (c := 10) (C := RX10) (T := TX10) (N := 60) rfl uw_10 58 (by decide) (by decide +kernel) (by decide +kernel) hT hlink hd kk
theorem zp_10_58 {x : zCx} {G : zG} {cc : ByteArray} {nL : Nat} {own : String} {fr lo : Nat} {Q : State → Prop} {cs sl pc : Nat} {ls : List (Nat × Value)} {st : List Value} {v : zV} (F : zF x G cc nL own fr lo) {i idx : Nat} {y : Int32} (hT : zty G i 1 10) (hlink : Cond.fieldLink own idx "ContraryChairsModel" "beliefFirst" "I" ∈ zTbl) (hd : decode cc pc = .ok (.putfield idx, 3)) (kk : zJ x G nL Q cs sl (pc + 3) ls st (zup v i 58 y)) : zJ x G nL Q cs sl pc ls (.int y :: zr G i :: st) v := z_putI F (c := 10) (C := RX10) (T := TX10) (N := 60) (ty := .int) tyX10 tyX10_ok nmX10 rfl uw_10 58 (by decide) (by decide +kernel) (by decide +kernel) rfl (by decide +kernel) rfl rfl hT hlink hd kk
theorem zg_10_59 {x : zCx} {G : zG} {cc : ByteArray} {nL : Nat} {own : String} {fr lo : Nat} {Q : State → Prop} {cs sl pc : Nat} {ls : List (Nat × Value)} {st : List Value} {v : zV} (F : zF x G cc nL own fr lo) {i idx : Nat} (hT : zty G i 1 10) (hlink : Cond.fieldLink own idx "ContraryChairsModel" "votes" "[I" ∈ zTbl) (hd : decode cc pc = .ok (.getfield idx, 3)) (kk : zJ x G nL Q cs sl (pc + 3) ls (zr G (zrf i 59) :: st) v) : zJ x G nL Q cs sl pc ls (zr G i :: st) v := z_getR F (c := 10) (C := RX10) (T := TX10) (N := 60) rfl uw_10 59 (by decide) (by decide +kernel) (by decide +kernel) hT hlink hd kk
theorem tc_10_59 : zchk 10 59 2 0 = true := by decide +kernel
theorem tcA_3 : zchkA 3 2 0 = true := by decide +kernel
theorem tcA_4 : zchkA 4 1 7 = true := by decide +kernel
