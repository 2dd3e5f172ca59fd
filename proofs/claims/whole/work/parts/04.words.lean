theorem zin_1 {w : Cond} (h : w ∈ tables_1_1) : w ∈ lw_tbl := List.mem_append_right _ (List.mem_append_left _ h)
theorem zin_2 {w : Cond} (h : w ∈ tables_1_2) : w ∈ lw_tbl := List.mem_append_right _ (List.mem_append_right _ (List.mem_append_left _ h))
theorem zin_3 {w : Cond} (h : w ∈ tables_1_3) : w ∈ lw_tbl := List.mem_append_right _ (List.mem_append_right _ (List.mem_append_right _ (List.mem_append_left _ h)))
theorem zin_4 {w : Cond} (h : w ∈ tables_1_4) : w ∈ lw_tbl := List.mem_append_right _ (List.mem_append_right _ (List.mem_append_right _ (List.mem_append_right _ (List.mem_append_left _ h))))
theorem zin_5 {w : Cond} (h : w ∈ tables_1_5) : w ∈ lw_tbl := List.mem_append_right _ (List.mem_append_right _ (List.mem_append_right _ (List.mem_append_right _ (List.mem_append_right _ (List.mem_append_left _ h)))))
theorem zin_6 {w : Cond} (h : w ∈ tables_1_6) : w ∈ lw_tbl := List.mem_append_right _ (List.mem_append_right _ (List.mem_append_right _ (List.mem_append_right _ (List.mem_append_right _ (List.mem_append_right _ (List.mem_append_left _ h))))))
theorem zin_7 {w : Cond} (h : w ∈ tables_1_7) : w ∈ lw_tbl := List.mem_append_right _ (List.mem_append_right _ (List.mem_append_right _ (List.mem_append_right _ (List.mem_append_right _ (List.mem_append_right _ (List.mem_append_right _ (List.mem_append_left _ h)))))))
theorem zin_8 {w : Cond} (h : w ∈ tables_1_8) : w ∈ lw_tbl := List.mem_append_right _ (List.mem_append_right _ (List.mem_append_right _ (List.mem_append_right _ (List.mem_append_right _ (List.mem_append_right _ (List.mem_append_right _ (List.mem_append_right _ (List.mem_append_left _ h))))))))
theorem zin_9 {w : Cond} (h : w ∈ tables_1_9) : w ∈ lw_tbl := List.mem_append_right _ (List.mem_append_right _ (List.mem_append_right _ (List.mem_append_right _ (List.mem_append_right _ (List.mem_append_right _ (List.mem_append_right _ (List.mem_append_right _ (List.mem_append_right _ (h)))))))))
theorem ini_RL : Cond.initialized RL ∈ zTbl := zTbl_of (zin_1 (List.mem_of_getElem? (i := 0) (by decide +kernel))) rfl
theorem ini_RX9 : Cond.initialized RX9 ∈ zTbl := zTbl_of (zin_1 (List.mem_of_getElem? (i := 1) (by decide +kernel))) rfl
theorem ini_RX8 : Cond.initialized RX8 ∈ zTbl := zTbl_of (zin_1 (List.mem_of_getElem? (i := 2) (by decide +kernel))) rfl
theorem ini_RX0 : Cond.initialized RX0 ∈ zTbl := zTbl_of (zin_1 (List.mem_of_getElem? (i := 3) (by decide +kernel))) rfl
theorem ini_RX5 : Cond.initialized RX5 ∈ zTbl := zTbl_of (zin_1 (List.mem_of_getElem? (i := 4) (by decide +kernel))) rfl
theorem ini_RX1 : Cond.initialized RX1 ∈ zTbl := zTbl_of (zin_1 (List.mem_of_getElem? (i := 5) (by decide +kernel))) rfl
theorem ini_RX7 : Cond.initialized RX7 ∈ zTbl := zTbl_of (zin_1 (List.mem_of_getElem? (i := 6) (by decide +kernel))) rfl
theorem ini_RX2 : Cond.initialized RX2 ∈ zTbl := zTbl_of (zin_1 (List.mem_of_getElem? (i := 7) (by decide +kernel))) rfl
theorem ini_RX4 : Cond.initialized RX4 ∈ zTbl := zTbl_of (zin_1 (List.mem_of_getElem? (i := 8) (by decide +kernel))) rfl
theorem ini_RX6 : Cond.initialized RX6 ∈ zTbl := zTbl_of (zin_1 (List.mem_of_getElem? (i := 9) (by decide +kernel))) rfl
theorem ini_RX3 : Cond.initialized RX3 ∈ zTbl := zTbl_of (zin_1 (List.mem_of_getElem? (i := 10) (by decide +kernel))) rfl
theorem mi_X9_init : Cond.instanceMethod yX9_init ∈ zTbl := zTbl_of (zin_1 (List.mem_of_getElem? (i := 27) (by decide +kernel))) rfl
set_option maxRecDepth 20000 in
theorem kd_X9_init : Cond.code yX9_init prog_1_method_1_code 2 (Option.none : Option FieldType) ∈ zTbl := zTbl_of (zin_1 (List.mem_of_getElem? (i := 28) rfl)) rfl
theorem wN_X9_9 : Cond.methodLinkNest RX9 9 yX8_init "ContraryChairs" ∈ lw_tbl := zin_1 (List.mem_of_getElem? (i := 34) (by decide +kernel))
theorem mi_X8_init : Cond.instanceMethod yX8_init ∈ zTbl := zTbl_of (zin_1 (List.mem_of_getElem? (i := 35) (by decide +kernel))) rfl
set_option maxRecDepth 20000 in
theorem kd_X8_init : Cond.code yX8_init prog_10_method_1_code 1 (Option.none : Option FieldType) ∈ zTbl := zTbl_of (zin_1 (List.mem_of_getElem? (i := 36) rfl)) rfl
theorem wF_X8_9 : Cond.fieldLink RX8 9 "ContraryChairs$Tape" "bytes" "[B" ∈ zTbl := zTbl_of (zin_1 (List.mem_of_getElem? (i := 38) (by decide +kernel))) rfl
theorem wF_X9_96 : Cond.fieldLink RX9 96 "ContraryChairs$Tape" "size" "I" ∈ zTbl := zTbl_of (zin_1 (List.mem_of_getElem? (i := 39) (by decide +kernel))) rfl
theorem wF_X8_19 : Cond.fieldLink RX8 19 "ContraryChairs$Tape" "size" "I" ∈ zTbl := zTbl_of (zin_1 (List.mem_of_getElem? (i := 40) (by decide +kernel))) rfl
theorem wF_X8_28 : Cond.fieldLink RX8 28 "ContraryChairs$Tape" "fault" "I" ∈ zTbl := zTbl_of (zin_1 (List.mem_of_getElem? (i := 41) (by decide +kernel))) rfl
theorem wF_X9_112 : Cond.fieldLink RX9 112 "ContraryChairs$Tape" "fault" "I" ∈ zTbl := zTbl_of (zin_1 (List.mem_of_getElem? (i := 42) (by decide +kernel))) rfl
theorem wF_X8_15 : Cond.fieldLink RX8 15 "ContraryChairs$Tape" "place" "I" ∈ zTbl := zTbl_of (zin_1 (List.mem_of_getElem? (i := 43) (by decide +kernel))) rfl
theorem wF_X9_147 : Cond.fieldLink RX9 147 "ContraryChairs$Tape" "place" "I" ∈ zTbl := zTbl_of (zin_1 (List.mem_of_getElem? (i := 44) (by decide +kernel))) rfl
theorem wF_X8_22 : Cond.fieldLink RX8 22 "ContraryChairs$Tape" "end" "I" ∈ zTbl := zTbl_of (zin_1 (List.mem_of_getElem? (i := 45) (by decide +kernel))) rfl
theorem wF_X8_25 : Cond.fieldLink RX8 25 "ContraryChairs$Tape" "at" "I" ∈ zTbl := zTbl_of (zin_1 (List.mem_of_getElem? (i := 46) (by decide +kernel))) rfl
theorem wN_X9_18 : Cond.methodLinkNest RX9 18 yX0_init "ContraryChairs" ∈ lw_tbl := zin_1 (List.mem_of_getElem? (i := 63) (by decide +kernel))
theorem wF_X9_158 : Cond.fieldLink RX9 158 "ContraryChairs$Academy" "questions" "I" ∈ zTbl := zTbl_of (zin_1 (List.mem_of_getElem? (i := 70) (by decide +kernel))) rfl
theorem wF_X9_134 : Cond.fieldLink RX9 134 "ContraryChairs$Academy" "men" "I" ∈ zTbl := zTbl_of (zin_1 (List.mem_of_getElem? (i := 73) (by decide +kernel))) rfl
theorem wF_X9_161 : Cond.fieldLink RX9 161 "ContraryChairs$Academy" "chairs" "I" ∈ zTbl := zTbl_of (zin_1 (List.mem_of_getElem? (i := 79) (by decide +kernel))) rfl
theorem wF_X7_52 : Cond.fieldLink RX7 52 "ContraryChairs$Academy" "seats" "I" ∈ zTbl := zTbl_of (zin_1 (List.mem_of_getElem? (i := 81) (by decide +kernel))) rfl
theorem wF_X9_174 : Cond.fieldLink RX9 174 "ContraryChairs$Academy" "deaths" "I" ∈ zTbl := zTbl_of (zin_1 (List.mem_of_getElem? (i := 84) (by decide +kernel))) rfl
theorem wF_X9_177 : Cond.fieldLink RX9 177 "ContraryChairs$Academy" "praises" "I" ∈ zTbl := zTbl_of (zin_1 (List.mem_of_getElem? (i := 86) (by decide +kernel))) rfl
theorem wF_X9_208 : Cond.fieldLink RX9 208 "ContraryChairs$Academy" "sides" "[I" ∈ zTbl := zTbl_of (zin_1 (List.mem_of_getElem? (i := 90) (by decide +kernel))) rfl
theorem wF_X7_57 : Cond.fieldLink RX7 57 "ContraryChairs$Academy" "seated" "[I" ∈ zTbl := zTbl_of (zin_1 (List.mem_of_getElem? (i := 96) (by decide +kernel))) rfl
theorem wM_X9_28 : Cond.methodLink RX9 28 yX5_init ∈ zTbl := zTbl_of (zin_1 (List.mem_of_getElem? (i := 140) (by decide +kernel))) rfl
theorem wN_X9_38 : Cond.methodLinkNest RX9 38 yX1_init "ContraryChairs" ∈ lw_tbl := zin_1 (List.mem_of_getElem? (i := 167) (by decide +kernel))
theorem wF_X9_122 : Cond.fieldLink RX9 122 "ContraryChairs$Book" "lines" "I" ∈ zTbl := zTbl_of (zin_1 (List.mem_of_getElem? (i := 173) (by decide +kernel))) rfl
theorem wN_X9_48 : Cond.methodLinkNest RX9 48 yX7_init "ContraryChairs" ∈ lw_tbl := zin_1 (List.mem_of_getElem? (i := 187) (by decide +kernel))
theorem mi_X7_init : Cond.instanceMethod yX7_init ∈ zTbl := zTbl_of (zin_1 (List.mem_of_getElem? (i := 188) (by decide +kernel))) rfl
set_option maxRecDepth 20000 in
theorem kd_X7_init : Cond.code yX7_init prog_9_method_1_code 1 (Option.none : Option FieldType) ∈ zTbl := zTbl_of (zin_1 (List.mem_of_getElem? (i := 189) rfl)) rfl
theorem wF_X7_9 : Cond.fieldLink RX7 9 "ContraryChairs$Row" "year" "I" ∈ zTbl := zTbl_of (zin_1 (List.mem_of_getElem? (i := 191) (by decide +kernel))) rfl
theorem wF_X9_164 : Cond.fieldLink RX9 164 "ContraryChairs$Row" "year" "I" ∈ zTbl := zTbl_of (zin_1 (List.mem_of_getElem? (i := 194) (by decide +kernel))) rfl
theorem wF_X7_31 : Cond.fieldLink RX7 31 "ContraryChairs$Row" "sat" "I" ∈ zTbl := zTbl_of (zin_1 (List.mem_of_getElem? (i := 195) (by decide +kernel))) rfl
theorem wF_X9_167 : Cond.fieldLink RX9 167 "ContraryChairs$Row" "sat" "I" ∈ zTbl := zTbl_of (zin_1 (List.mem_of_getElem? (i := 198) (by decide +kernel))) rfl
theorem wF_X7_34 : Cond.fieldLink RX7 34 "ContraryChairs$Row" "voids" "I" ∈ zTbl := zTbl_of (zin_1 (List.mem_of_getElem? (i := 200) (by decide +kernel))) rfl
theorem wF_X9_236 : Cond.fieldLink RX9 236 "ContraryChairs$Row" "voids" "I" ∈ zTbl := zTbl_of (zin_1 (List.mem_of_getElem? (i := 203) (by decide +kernel))) rfl
theorem wF_X7_37 : Cond.fieldLink RX7 37 "ContraryChairs$Row" "entered" "I" ∈ zTbl := zTbl_of (zin_1 (List.mem_of_getElem? (i := 204) (by decide +kernel))) rfl
theorem wF_X9_239 : Cond.fieldLink RX9 239 "ContraryChairs$Row" "entered" "I" ∈ zTbl := zTbl_of (zin_1 (List.mem_of_getElem? (i := 206) (by decide +kernel))) rfl
theorem wF_X7_40 : Cond.fieldLink RX7 40 "ContraryChairs$Row" "left" "I" ∈ zTbl := zTbl_of (zin_1 (List.mem_of_getElem? (i := 207) (by decide +kernel))) rfl
theorem wF_X9_242 : Cond.fieldLink RX9 242 "ContraryChairs$Row" "left" "I" ∈ zTbl := zTbl_of (zin_1 (List.mem_of_getElem? (i := 208) (by decide +kernel))) rfl
theorem wF_X7_43 : Cond.fieldLink RX7 43 "ContraryChairs$Row" "died" "I" ∈ zTbl := zTbl_of (zin_1 (List.mem_of_getElem? (i := 209) (by decide +kernel))) rfl
theorem wF_X9_245 : Cond.fieldLink RX9 245 "ContraryChairs$Row" "died" "I" ∈ zTbl := zTbl_of (zin_1 (List.mem_of_getElem? (i := 211) (by decide +kernel))) rfl
theorem wF_X7_46 : Cond.fieldLink RX7 46 "ContraryChairs$Row" "asides" "I" ∈ zTbl := zTbl_of (zin_1 (List.mem_of_getElem? (i := 213) (by decide +kernel))) rfl
theorem wF_X9_255 : Cond.fieldLink RX9 255 "ContraryChairs$Row" "asides" "I" ∈ zTbl := zTbl_of (zin_1 (List.mem_of_getElem? (i := 214) (by decide +kernel))) rfl
theorem wF_X7_49 : Cond.fieldLink RX7 49 "ContraryChairs$Row" "asideYear" "I" ∈ zTbl := zTbl_of (zin_1 (List.mem_of_getElem? (i := 215) (by decide +kernel))) rfl
theorem wF_X7_15 : Cond.fieldLink RX7 15 "ContraryChairs$Row" "chairs" "[I" ∈ zTbl := zTbl_of (zin_1 (List.mem_of_getElem? (i := 216) (by decide +kernel))) rfl
theorem wF_X7_19 : Cond.fieldLink RX7 19 "ContraryChairs$Row" "state" "[I" ∈ zTbl := zTbl_of (zin_1 (List.mem_of_getElem? (i := 217) (by decide +kernel))) rfl
theorem wF_X9_187 : Cond.fieldLink RX9 187 "ContraryChairs$Row" "state" "[I" ∈ zTbl := zTbl_of (zin_1 (List.mem_of_getElem? (i := 220) (by decide +kernel))) rfl
theorem wF_X7_22 : Cond.fieldLink RX7 22 "ContraryChairs$Row" "waits" "[I" ∈ zTbl := zTbl_of (zin_1 (List.mem_of_getElem? (i := 221) (by decide +kernel))) rfl
theorem wF_X9_199 : Cond.fieldLink RX9 199 "ContraryChairs$Row" "waits" "[I" ∈ zTbl := zTbl_of (zin_1 (List.mem_of_getElem? (i := 223) (by decide +kernel))) rfl
theorem wF_X7_25 : Cond.fieldLink RX7 25 "ContraryChairs$Row" "since" "[I" ∈ zTbl := zTbl_of (zin_1 (List.mem_of_getElem? (i := 224) (by decide +kernel))) rfl
theorem wF_X9_202 : Cond.fieldLink RX9 202 "ContraryChairs$Row" "since" "[I" ∈ zTbl := zTbl_of (zin_1 (List.mem_of_getElem? (i := 225) (by decide +kernel))) rfl
theorem wF_X7_28 : Cond.fieldLink RX7 28 "ContraryChairs$Row" "aside" "[I" ∈ zTbl := zTbl_of (zin_1 (List.mem_of_getElem? (i := 226) (by decide +kernel))) rfl
theorem wM_X9_62 : Cond.methodLink RX9 62 yX2_init ∈ zTbl := zTbl_of (zin_2 (List.mem_of_getElem? (i := 17) (by decide +kernel))) rfl
theorem wM_X9_71 : Cond.methodLink RX9 71 yX4_init ∈ zTbl := zTbl_of (zin_2 (List.mem_of_getElem? (i := 34) (by decide +kernel))) rfl
theorem wN_X4_11 : Cond.methodLinkNest RX4 11 yX7_init "ContraryChairs" ∈ lw_tbl := zin_2 (List.mem_of_getElem? (i := 39) (by decide +kernel))
theorem wF_X9_354 : Cond.fieldLink RX9 354 "ContraryChairs$Foresight" "fewestSat" "I" ∈ zTbl := zTbl_of (zin_2 (List.mem_of_getElem? (i := 51) (by decide +kernel))) rfl
theorem wF_X9_357 : Cond.fieldLink RX9 357 "ContraryChairs$Foresight" "mostSat" "I" ∈ zTbl := zTbl_of (zin_2 (List.mem_of_getElem? (i := 53) (by decide +kernel))) rfl
theorem wF_X9_360 : Cond.fieldLink RX9 360 "ContraryChairs$Foresight" "sittings" "I" ∈ zTbl := zTbl_of (zin_2 (List.mem_of_getElem? (i := 55) (by decide +kernel))) rfl
theorem wM_X9_80 : Cond.methodLink RX9 80 yX6_init ∈ zTbl := zTbl_of (zin_2 (List.mem_of_getElem? (i := 85) (by decide +kernel))) rfl
theorem wN_X6_11 : Cond.methodLinkNest RX6 11 yX7_init "ContraryChairs" ∈ lw_tbl := zin_2 (List.mem_of_getElem? (i := 90) (by decide +kernel))
theorem wF_X9_274 : Cond.fieldLink RX9 274 "ContraryChairs$Records" "ways" "I" ∈ zTbl := zTbl_of (zin_2 (List.mem_of_getElem? (i := 98) (by decide +kernel))) rfl
theorem wF_X9_277 : Cond.fieldLink RX9 277 "ContraryChairs$Records" "firstWay" "I" ∈ zTbl := zTbl_of (zin_2 (List.mem_of_getElem? (i := 100) (by decide +kernel))) rfl
theorem wM_X9_89 : Cond.methodLink RX9 89 yX3_init ∈ zTbl := zTbl_of (zin_2 (List.mem_of_getElem? (i := 120) (by decide +kernel))) rfl
theorem wF_X9_10 : Cond.fieldLink RX9 10 "ContraryChairs" "tape" "LContraryChairs$Tape;" ∈ zTbl := zTbl_of (zin_2 (List.mem_of_getElem? (i := 134) (by decide +kernel))) rfl
theorem wF_X9_19 : Cond.fieldLink RX9 19 "ContraryChairs" "academy" "LContraryChairs$Academy;" ∈ zTbl := zTbl_of (zin_2 (List.mem_of_getElem? (i := 135) (by decide +kernel))) rfl
theorem wF_X9_23 : Cond.fieldLink RX9 23 "ContraryChairs" "draftAcademy" "LContraryChairs$Academy;" ∈ zTbl := zTbl_of (zin_2 (List.mem_of_getElem? (i := 136) (by decide +kernel))) rfl
theorem wF_X9_29 : Cond.fieldLink RX9 29 "ContraryChairs" "law" "LContraryChairs$Law;" ∈ zTbl := zTbl_of (zin_2 (List.mem_of_getElem? (i := 137) (by decide +kernel))) rfl
theorem wF_X9_33 : Cond.fieldLink RX9 33 "ContraryChairs" "draftLaw" "LContraryChairs$Law;" ∈ zTbl := zTbl_of (zin_2 (List.mem_of_getElem? (i := 138) (by decide +kernel))) rfl
theorem wF_X9_39 : Cond.fieldLink RX9 39 "ContraryChairs" "book" "LContraryChairs$Book;" ∈ zTbl := zTbl_of (zin_2 (List.mem_of_getElem? (i := 139) (by decide +kernel))) rfl
theorem wF_X9_43 : Cond.fieldLink RX9 43 "ContraryChairs" "draftBook" "LContraryChairs$Book;" ∈ zTbl := zTbl_of (zin_2 (List.mem_of_getElem? (i := 140) (by decide +kernel))) rfl
theorem wF_X9_49 : Cond.fieldLink RX9 49 "ContraryChairs" "now" "LContraryChairs$Row;" ∈ zTbl := zTbl_of (zin_2 (List.mem_of_getElem? (i := 141) (by decide +kernel))) rfl
theorem wF_X9_53 : Cond.fieldLink RX9 53 "ContraryChairs" "undoEnd" "LContraryChairs$Row;" ∈ zTbl := zTbl_of (zin_2 (List.mem_of_getElem? (i := 142) (by decide +kernel))) rfl
theorem wF_X9_56 : Cond.fieldLink RX9 56 "ContraryChairs" "images" "[LContraryChairs$Row;" ∈ zTbl := zTbl_of (zin_2 (List.mem_of_getElem? (i := 143) (by decide +kernel))) rfl
theorem wF_X9_125 : Cond.fieldLink RX9 125 "ContraryChairs" "imageCount" "I" ∈ zTbl := zTbl_of (zin_2 (List.mem_of_getElem? (i := 144) (by decide +kernel))) rfl
theorem wF_X9_65 : Cond.fieldLink RX9 65 "ContraryChairs" "calendar" "LContraryChairs$Calendar;" ∈ zTbl := zTbl_of (zin_2 (List.mem_of_getElem? (i := 145) (by decide +kernel))) rfl
theorem wF_X9_74 : Cond.fieldLink RX9 74 "ContraryChairs" "foresight" "LContraryChairs$Foresight;" ∈ zTbl := zTbl_of (zin_2 (List.mem_of_getElem? (i := 146) (by decide +kernel))) rfl
theorem wF_X9_83 : Cond.fieldLink RX9 83 "ContraryChairs" "records" "LContraryChairs$Records;" ∈ zTbl := zTbl_of (zin_2 (List.mem_of_getElem? (i := 147) (by decide +kernel))) rfl
theorem wF_X9_92 : Cond.fieldLink RX9 92 "ContraryChairs" "company" "LContraryChairs$Company;" ∈ zTbl := zTbl_of (zin_2 (List.mem_of_getElem? (i := 148) (by decide +kernel))) rfl
theorem wF_X9_363 : Cond.fieldLink RX9 363 "ContraryChairs" "unknownCalls" "I" ∈ zTbl := zTbl_of (zin_2 (List.mem_of_getElem? (i := 149) (by decide +kernel))) rfl
theorem wF_X9_366 : Cond.fieldLink RX9 366 "ContraryChairs" "unfitCalls" "I" ∈ zTbl := zTbl_of (zin_2 (List.mem_of_getElem? (i := 150) (by decide +kernel))) rfl
theorem mi_X9_feed : Cond.instanceMethod yX9_feed ∈ zTbl := zTbl_of (zin_2 (List.mem_of_getElem? (i := 187) (by decide +kernel))) rfl
theorem sl_X9_feed : Cond.selects RX9 yX9_feed yX9_feed ∈ zTbl := zTbl_of (zin_2 (List.mem_of_getElem? (i := 188) (by decide +kernel))) rfl
set_option maxRecDepth 20000 in
theorem kd_X9_feed : Cond.code yX9_feed prog_1_method_2_code 6 (Option.some FieldType.int) ∈ zTbl := zTbl_of (zin_2 (List.mem_of_getElem? (i := 189) rfl)) rfl
theorem wM_X9_100 : Cond.methodLink RX9 100 yX8_put ∈ zTbl := zTbl_of (zin_2 (List.mem_of_getElem? (i := 190) (by decide +kernel))) rfl
theorem mi_X8_put : Cond.instanceMethod yX8_put ∈ zTbl := zTbl_of (zin_2 (List.mem_of_getElem? (i := 191) (by decide +kernel))) rfl
theorem sl_X8_put : Cond.selects RX8 yX8_put yX8_put ∈ zTbl := zTbl_of (zin_2 (List.mem_of_getElem? (i := 192) (by decide +kernel))) rfl
set_option maxRecDepth 20000 in
theorem kd_X8_put : Cond.code yX8_put prog_10_method_2_code 3 (Option.none : Option FieldType) ∈ zTbl := zTbl_of (zin_2 (List.mem_of_getElem? (i := 193) rfl)) rfl
theorem mi_X9_fault : Cond.instanceMethod yX9_fault ∈ zTbl := zTbl_of (zin_2 (List.mem_of_getElem? (i := 195) (by decide +kernel))) rfl
theorem sl_X9_fault : Cond.selects RX9 yX9_fault yX9_fault ∈ zTbl := zTbl_of (zin_2 (List.mem_of_getElem? (i := 196) (by decide +kernel))) rfl
set_option maxRecDepth 20000 in
theorem kd_X9_fault : Cond.code yX9_fault prog_1_method_6_code 1 (Option.some FieldType.int) ∈ zTbl := zTbl_of (zin_2 (List.mem_of_getElem? (i := 197) rfl)) rfl
theorem mi_X9_next : Cond.instanceMethod yX9_next ∈ zTbl := zTbl_of (zin_2 (List.mem_of_getElem? (i := 199) (by decide +kernel))) rfl
theorem sl_X9_next : Cond.selects RX9 yX9_next yX9_next ∈ zTbl := zTbl_of (zin_2 (List.mem_of_getElem? (i := 200) (by decide +kernel))) rfl
set_option maxRecDepth 20000 in
theorem kd_X9_next : Cond.code yX9_next prog_1_method_14_code 1 (Option.some FieldType.int) ∈ zTbl := zTbl_of (zin_2 (List.mem_of_getElem? (i := 201) rfl)) rfl
theorem wM_X9_224 : Cond.methodLink RX9 224 yX4_nextTaken ∈ zTbl := zTbl_of (zin_2 (List.mem_of_getElem? (i := 202) (by decide +kernel))) rfl
theorem mi_X7_copy : Cond.instanceMethod yX7_copy ∈ zTbl := zTbl_of (zin_2 (List.mem_of_getElem? (i := 207) (by decide +kernel))) rfl
theorem sl_X7_copy : Cond.selects RX7 yX7_copy yX7_copy ∈ zTbl := zTbl_of (zin_2 (List.mem_of_getElem? (i := 208) (by decide +kernel))) rfl
set_option maxRecDepth 20000 in
theorem kd_X7_copy : Cond.code yX7_copy prog_9_method_3_code 2 (Option.none : Option FieldType) ∈ zTbl := zTbl_of (zin_2 (List.mem_of_getElem? (i := 209) rfl)) rfl
theorem wN_X2_40 : Cond.methodLinkNest RX2 40 yX9_get "ContraryChairs" ∈ lw_tbl := zin_2 (List.mem_of_getElem? (i := 221) (by decide +kernel))
theorem ms_X9_get : Cond.static yX9_get ∈ zTbl := zTbl_of (zin_2 (List.mem_of_getElem? (i := 222) (by decide +kernel))) rfl
set_option maxRecDepth 20000 in
theorem kd_X9_get : Cond.code yX9_get prog_1_method_59_code 2 (Option.some FieldType.int) ∈ zTbl := zTbl_of (zin_2 (List.mem_of_getElem? (i := 223) rfl)) rfl
theorem mi_X7_isAlive : Cond.instanceMethod yX7_isAlive ∈ zTbl := zTbl_of (zin_2 (List.mem_of_getElem? (i := 229) (by decide +kernel))) rfl
theorem sl_X7_isAlive : Cond.selects RX7 yX7_isAlive yX7_isAlive ∈ zTbl := zTbl_of (zin_2 (List.mem_of_getElem? (i := 230) (by decide +kernel))) rfl
set_option maxRecDepth 20000 in
theorem kd_X7_isAlive : Cond.code yX7_isAlive prog_9_method_5_code 2 (Option.some FieldType.boolean) ∈ zTbl := zTbl_of (zin_2 (List.mem_of_getElem? (i := 231) rfl)) rfl
theorem wN_X7_60 : Cond.methodLinkNest RX7 60 yX9_get "ContraryChairs" ∈ lw_tbl := zin_2 (List.mem_of_getElem? (i := 232) (by decide +kernel))
theorem mi_X7_chairOf : Cond.instanceMethod yX7_chairOf ∈ zTbl := zTbl_of (zin_2 (List.mem_of_getElem? (i := 234) (by decide +kernel))) rfl
theorem sl_X7_chairOf : Cond.selects RX7 yX7_chairOf yX7_chairOf ∈ zTbl := zTbl_of (zin_2 (List.mem_of_getElem? (i := 235) (by decide +kernel))) rfl
set_option maxRecDepth 20000 in
theorem kd_X7_chairOf : Cond.code yX7_chairOf prog_9_method_8_code 3 (Option.some FieldType.int) ∈ zTbl := zTbl_of (zin_2 (List.mem_of_getElem? (i := 236) rfl)) rfl
theorem wN_X2_92 : Cond.methodLinkNest RX2 92 yX9_set "ContraryChairs" ∈ lw_tbl := zin_2 (List.mem_of_getElem? (i := 237) (by decide +kernel))
theorem ms_X9_set : Cond.static yX9_set ∈ zTbl := zTbl_of (zin_2 (List.mem_of_getElem? (i := 238) (by decide +kernel))) rfl
set_option maxRecDepth 20000 in
theorem kd_X9_set : Cond.code yX9_set prog_1_method_60_code 3 (Option.none : Option FieldType) ∈ zTbl := zTbl_of (zin_2 (List.mem_of_getElem? (i := 239) rfl)) rfl
theorem mi_X7_vacate : Cond.instanceMethod yX7_vacate ∈ zTbl := zTbl_of (zin_3 (List.mem_of_getElem? (i := 1) (by decide +kernel))) rfl
theorem sl_X7_vacate : Cond.selects RX7 yX7_vacate yX7_vacate ∈ zTbl := zTbl_of (zin_3 (List.mem_of_getElem? (i := 2) (by decide +kernel))) rfl
set_option maxRecDepth 20000 in
theorem kd_X7_vacate : Cond.code yX7_vacate prog_9_method_10_code 3 (Option.none : Option FieldType) ∈ zTbl := zTbl_of (zin_3 (List.mem_of_getElem? (i := 3) rfl)) rfl
theorem wN_X7_74 : Cond.methodLinkNest RX7 74 yX9_set "ContraryChairs" ∈ lw_tbl := zin_3 (List.mem_of_getElem? (i := 4) (by decide +kernel))
theorem mi_X7_onChair : Cond.instanceMethod yX7_onChair ∈ zTbl := zTbl_of (zin_3 (List.mem_of_getElem? (i := 10) (by decide +kernel))) rfl
theorem sl_X7_onChair : Cond.selects RX7 yX7_onChair yX7_onChair ∈ zTbl := zTbl_of (zin_3 (List.mem_of_getElem? (i := 11) (by decide +kernel))) rfl
set_option maxRecDepth 20000 in
theorem kd_X7_onChair : Cond.code yX7_onChair prog_9_method_6_code 2 (Option.some FieldType.int) ∈ zTbl := zTbl_of (zin_3 (List.mem_of_getElem? (i := 12) rfl)) rfl
theorem wN_X0_139 : Cond.methodLinkNest RX0 139 yX9_get "ContraryChairs" ∈ lw_tbl := zin_3 (List.mem_of_getElem? (i := 17) (by decide +kernel))
theorem mi_X7_leave : Cond.instanceMethod yX7_leave ∈ zTbl := zTbl_of (zin_3 (List.mem_of_getElem? (i := 19) (by decide +kernel))) rfl
theorem sl_X7_leave : Cond.selects RX7 yX7_leave yX7_leave ∈ zTbl := zTbl_of (zin_3 (List.mem_of_getElem? (i := 20) (by decide +kernel))) rfl
set_option maxRecDepth 20000 in
theorem kd_X7_leave : Cond.code yX7_leave prog_9_method_11_code 2 (Option.none : Option FieldType) ∈ zTbl := zTbl_of (zin_3 (List.mem_of_getElem? (i := 21) rfl)) rfl
theorem wM_X7_78 : Cond.methodLink RX7 78 yX7_vacate ∈ zTbl := zTbl_of (zin_3 (List.mem_of_getElem? (i := 22) (by decide +kernel))) rfl
theorem mi_X7_isWaiting : Cond.instanceMethod yX7_isWaiting ∈ zTbl := zTbl_of (zin_3 (List.mem_of_getElem? (i := 32) (by decide +kernel))) rfl
theorem sl_X7_isWaiting : Cond.selects RX7 yX7_isWaiting yX7_isWaiting ∈ zTbl := zTbl_of (zin_3 (List.mem_of_getElem? (i := 33) (by decide +kernel))) rfl
set_option maxRecDepth 20000 in
theorem kd_X7_isWaiting : Cond.code yX7_isWaiting prog_9_method_4_code 2 (Option.some FieldType.boolean) ∈ zTbl := zTbl_of (zin_3 (List.mem_of_getElem? (i := 34) rfl)) rfl
theorem mi_X7_last : Cond.instanceMethod yX7_last ∈ zTbl := zTbl_of (zin_3 (List.mem_of_getElem? (i := 40) (by decide +kernel))) rfl
theorem sl_X7_last : Cond.selects RX7 yX7_last yX7_last ∈ zTbl := zTbl_of (zin_3 (List.mem_of_getElem? (i := 41) (by decide +kernel))) rfl
set_option maxRecDepth 20000 in
theorem kd_X7_last : Cond.code yX7_last prog_9_method_7_code 1 (Option.some FieldType.int) ∈ zTbl := zTbl_of (zin_3 (List.mem_of_getElem? (i := 42) rfl)) rfl
theorem wN_X5_112 : Cond.methodLinkNest RX5 112 yX9_set "ContraryChairs" ∈ lw_tbl := zin_3 (List.mem_of_getElem? (i := 57) (by decide +kernel))
theorem wN_X5_120 : Cond.methodLinkNest RX5 120 yX9_get "ContraryChairs" ∈ lw_tbl := zin_3 (List.mem_of_getElem? (i := 69) (by decide +kernel))
theorem mi_X7_praiseAside : Cond.instanceMethod yX7_praiseAside ∈ zTbl := zTbl_of (zin_3 (List.mem_of_getElem? (i := 75) (by decide +kernel))) rfl
theorem sl_X7_praiseAside : Cond.selects RX7 yX7_praiseAside yX7_praiseAside ∈ zTbl := zTbl_of (zin_3 (List.mem_of_getElem? (i := 76) (by decide +kernel))) rfl
set_option maxRecDepth 20000 in
theorem kd_X7_praiseAside : Cond.code yX7_praiseAside prog_9_method_13_code 2 (Option.some FieldType.int) ∈ zTbl := zTbl_of (zin_3 (List.mem_of_getElem? (i := 77) rfl)) rfl
theorem mi_X7_sitDown : Cond.instanceMethod yX7_sitDown ∈ zTbl := zTbl_of (zin_3 (List.mem_of_getElem? (i := 91) (by decide +kernel))) rfl
theorem sl_X7_sitDown : Cond.selects RX7 yX7_sitDown yX7_sitDown ∈ zTbl := zTbl_of (zin_3 (List.mem_of_getElem? (i := 92) (by decide +kernel))) rfl
set_option maxRecDepth 20000 in
theorem kd_X7_sitDown : Cond.code yX7_sitDown prog_9_method_9_code 3 (Option.none : Option FieldType) ∈ zTbl := zTbl_of (zin_3 (List.mem_of_getElem? (i := 93) rfl)) rfl
theorem mi_X9_taken : Cond.instanceMethod yX9_taken ∈ zTbl := zTbl_of (zin_3 (List.mem_of_getElem? (i := 95) (by decide +kernel))) rfl
theorem sl_X9_taken : Cond.selects RX9 yX9_taken yX9_taken ∈ zTbl := zTbl_of (zin_3 (List.mem_of_getElem? (i := 96) (by decide +kernel))) rfl
set_option maxRecDepth 20000 in
theorem kd_X9_taken : Cond.code yX9_taken prog_1_method_17_code 3 (Option.some FieldType.int) ∈ zTbl := zTbl_of (zin_3 (List.mem_of_getElem? (i := 97) rfl)) rfl
theorem wM_X9_191 : Cond.methodLink RX9 191 yX9_get ∈ zTbl := zTbl_of (zin_3 (List.mem_of_getElem? (i := 98) (by decide +kernel))) rfl
theorem mi_X9_breaks : Cond.instanceMethod yX9_breaks ∈ zTbl := zTbl_of (zin_3 (List.mem_of_getElem? (i := 100) (by decide +kernel))) rfl
theorem sl_X9_breaks : Cond.selects RX9 yX9_breaks yX9_breaks ∈ zTbl := zTbl_of (zin_3 (List.mem_of_getElem? (i := 101) (by decide +kernel))) rfl
set_option maxRecDepth 20000 in
theorem kd_X9_breaks : Cond.code yX9_breaks prog_1_method_23_code 1 (Option.some FieldType.int) ∈ zTbl := zTbl_of (zin_3 (List.mem_of_getElem? (i := 102) rfl)) rfl
theorem wM_X9_264 : Cond.methodLink RX9 264 yX4_yearOfEntry ∈ zTbl := zTbl_of (zin_3 (List.mem_of_getElem? (i := 103) (by decide +kernel))) rfl
theorem mi_X9_right : Cond.instanceMethod yX9_right ∈ zTbl := zTbl_of (zin_3 (List.mem_of_getElem? (i := 108) (by decide +kernel))) rfl
theorem sl_X9_right : Cond.selects RX9 yX9_right yX9_right ∈ zTbl := zTbl_of (zin_3 (List.mem_of_getElem? (i := 109) (by decide +kernel))) rfl
set_option maxRecDepth 20000 in
theorem kd_X9_right : Cond.code yX9_right prog_1_method_28_code 1 (Option.some FieldType.int) ∈ zTbl := zTbl_of (zin_3 (List.mem_of_getElem? (i := 110) rfl)) rfl
theorem wM_X9_286 : Cond.methodLink RX9 286 yX6_rightLines ∈ zTbl := zTbl_of (zin_3 (List.mem_of_getElem? (i := 111) (by decide +kernel))) rfl
theorem wN_X1_70 : Cond.methodLinkNest RX1 70 yX9_get "ContraryChairs" ∈ lw_tbl := zin_3 (List.mem_of_getElem? (i := 119) (by decide +kernel))
theorem mi_X7_open : Cond.instanceMethod yX7_open ∈ zTbl := zTbl_of (zin_3 (List.mem_of_getElem? (i := 124) (by decide +kernel))) rfl
theorem sl_X7_open : Cond.selects RX7 yX7_open yX7_open ∈ zTbl := zTbl_of (zin_3 (List.mem_of_getElem? (i := 125) (by decide +kernel))) rfl
set_option maxRecDepth 20000 in
theorem kd_X7_open : Cond.code yX7_open prog_9_method_2_code 3 (Option.none : Option FieldType) ∈ zTbl := zTbl_of (zin_3 (List.mem_of_getElem? (i := 126) rfl)) rfl
theorem wM_X7_64 : Cond.methodLink RX7 64 yX7_sitDown ∈ zTbl := zTbl_of (zin_3 (List.mem_of_getElem? (i := 127) (by decide +kernel))) rfl
theorem wN_X6_53 : Cond.methodLinkNest RX6 53 yX9_set "ContraryChairs" ∈ lw_tbl := zin_3 (List.mem_of_getElem? (i := 129) (by decide +kernel))
theorem wN_X6_64 : Cond.methodLinkNest RX6 64 yX9_get "ContraryChairs" ∈ lw_tbl := zin_3 (List.mem_of_getElem? (i := 130) (by decide +kernel))
theorem mi_X9_middle : Cond.instanceMethod yX9_middle ∈ zTbl := zTbl_of (zin_3 (List.mem_of_getElem? (i := 132) (by decide +kernel))) rfl
theorem sl_X9_middle : Cond.selects RX9 yX9_middle yX9_middle ∈ zTbl := zTbl_of (zin_3 (List.mem_of_getElem? (i := 133) (by decide +kernel))) rfl
set_option maxRecDepth 20000 in
theorem kd_X9_middle : Cond.code yX9_middle prog_1_method_33_code 1 (Option.some FieldType.int) ∈ zTbl := zTbl_of (zin_3 (List.mem_of_getElem? (i := 134) rfl)) rfl
theorem wM_X9_302 : Cond.methodLink RX9 302 yX3_mostMiddling ∈ zTbl := zTbl_of (zin_3 (List.mem_of_getElem? (i := 135) (by decide +kernel))) rfl
theorem mi_X9_lead : Cond.instanceMethod yX9_lead ∈ zTbl := zTbl_of (zin_3 (List.mem_of_getElem? (i := 142) (by decide +kernel))) rfl
theorem sl_X9_lead : Cond.selects RX9 yX9_lead yX9_lead ∈ zTbl := zTbl_of (zin_3 (List.mem_of_getElem? (i := 143) (by decide +kernel))) rfl
set_option maxRecDepth 20000 in
theorem kd_X9_lead : Cond.code yX9_lead prog_1_method_38_code 1 (Option.some FieldType.int) ∈ zTbl := zTbl_of (zin_3 (List.mem_of_getElem? (i := 144) rfl)) rfl
theorem wM_X9_317 : Cond.methodLink RX9 317 yX4_leadOfGreatest ∈ zTbl := zTbl_of (zin_3 (List.mem_of_getElem? (i := 145) (by decide +kernel))) rfl
theorem mi_X9_seams : Cond.instanceMethod yX9_seams ∈ zTbl := zTbl_of (zin_3 (List.mem_of_getElem? (i := 152) (by decide +kernel))) rfl
theorem sl_X9_seams : Cond.selects RX9 yX9_seams yX9_seams ∈ zTbl := zTbl_of (zin_3 (List.mem_of_getElem? (i := 153) (by decide +kernel))) rfl
set_option maxRecDepth 20000 in
theorem kd_X9_seams : Cond.code yX9_seams prog_1_method_42_code 1 (Option.some FieldType.int) ∈ zTbl := zTbl_of (zin_3 (List.mem_of_getElem? (i := 154) rfl)) rfl
theorem wM_X9_329 : Cond.methodLink RX9 329 yX3_seamChairs ∈ zTbl := zTbl_of (zin_3 (List.mem_of_getElem? (i := 155) (by decide +kernel))) rfl
theorem mi_X9_ringed : Cond.instanceMethod yX9_ringed ∈ zTbl := zTbl_of (zin_3 (List.mem_of_getElem? (i := 161) (by decide +kernel))) rfl
theorem sl_X9_ringed : Cond.selects RX9 yX9_ringed yX9_ringed ∈ zTbl := zTbl_of (zin_3 (List.mem_of_getElem? (i := 162) (by decide +kernel))) rfl
set_option maxRecDepth 20000 in
theorem kd_X9_ringed : Cond.code yX9_ringed prog_1_method_43_code 1 (Option.some FieldType.int) ∈ zTbl := zTbl_of (zin_3 (List.mem_of_getElem? (i := 163) rfl)) rfl
theorem wM_X9_332 : Cond.methodLink RX9 332 yX3_ringedMen ∈ zTbl := zTbl_of (zin_3 (List.mem_of_getElem? (i := 164) (by decide +kernel))) rfl
theorem mi_X9_kin : Cond.instanceMethod yX9_kin ∈ zTbl := zTbl_of (zin_3 (List.mem_of_getElem? (i := 178) (by decide +kernel))) rfl
theorem sl_X9_kin : Cond.selects RX9 yX9_kin yX9_kin ∈ zTbl := zTbl_of (zin_3 (List.mem_of_getElem? (i := 179) (by decide +kernel))) rfl
set_option maxRecDepth 20000 in
theorem kd_X9_kin : Cond.code yX9_kin prog_1_method_46_code 1 (Option.some FieldType.int) ∈ zTbl := zTbl_of (zin_3 (List.mem_of_getElem? (i := 180) rfl)) rfl
theorem wM_X9_341 : Cond.methodLink RX9 341 yX3_unlikeRows ∈ zTbl := zTbl_of (zin_3 (List.mem_of_getElem? (i := 181) (by decide +kernel))) rfl
theorem mi_X9_image : Cond.instanceMethod yX9_image ∈ zTbl := zTbl_of (zin_3 (List.mem_of_getElem? (i := 186) (by decide +kernel))) rfl
theorem sl_X9_image : Cond.selects RX9 yX9_image yX9_image ∈ zTbl := zTbl_of (zin_3 (List.mem_of_getElem? (i := 187) (by decide +kernel))) rfl
set_option maxRecDepth 20000 in
theorem kd_X9_image : Cond.code yX9_image prog_1_method_50_code 1 (Option.some FieldType.int) ∈ zTbl := zTbl_of (zin_3 (List.mem_of_getElem? (i := 188) rfl)) rfl
theorem wM_X9_131 : Cond.methodLink RX9 131 yX7_copy ∈ zTbl := zTbl_of (zin_3 (List.mem_of_getElem? (i := 189) (by decide +kernel))) rfl
theorem mi_X9_restore : Cond.instanceMethod yX9_restore ∈ zTbl := zTbl_of (zin_3 (List.mem_of_getElem? (i := 191) (by decide +kernel))) rfl
theorem sl_X9_restore : Cond.selects RX9 yX9_restore yX9_restore ∈ zTbl := zTbl_of (zin_3 (List.mem_of_getElem? (i := 192) (by decide +kernel))) rfl
set_option maxRecDepth 20000 in
theorem kd_X9_restore : Cond.code yX9_restore prog_1_method_51_code 1 (Option.some FieldType.int) ∈ zTbl := zTbl_of (zin_3 (List.mem_of_getElem? (i := 193) rfl)) rfl
theorem mi_X9_status : Cond.instanceMethod yX9_status ∈ zTbl := zTbl_of (zin_3 (List.mem_of_getElem? (i := 195) (by decide +kernel))) rfl
theorem sl_X9_status : Cond.selects RX9 yX9_status yX9_status ∈ zTbl := zTbl_of (zin_3 (List.mem_of_getElem? (i := 196) (by decide +kernel))) rfl
set_option maxRecDepth 20000 in
theorem kd_X9_status : Cond.code yX9_status prog_1_method_52_code 2 (Option.some FieldType.int) ∈ zTbl := zTbl_of (zin_3 (List.mem_of_getElem? (i := 197) rfl)) rfl
theorem mi_X9_count : Cond.instanceMethod yX9_count ∈ zTbl := zTbl_of (zin_3 (List.mem_of_getElem? (i := 199) (by decide +kernel))) rfl
theorem sl_X9_count : Cond.selects RX9 yX9_count yX9_count ∈ zTbl := zTbl_of (zin_3 (List.mem_of_getElem? (i := 200) (by decide +kernel))) rfl
set_option maxRecDepth 20000 in
theorem kd_X9_count : Cond.code yX9_count prog_1_method_53_code 2 (Option.some FieldType.int) ∈ zTbl := zTbl_of (zin_3 (List.mem_of_getElem? (i := 201) rfl)) rfl
theorem mi_X9_academy : Cond.instanceMethod yX9_academy ∈ zTbl := zTbl_of (zin_3 (List.mem_of_getElem? (i := 207) (by decide +kernel))) rfl
theorem sl_X9_academy : Cond.selects RX9 yX9_academy yX9_academy ∈ zTbl := zTbl_of (zin_3 (List.mem_of_getElem? (i := 208) (by decide +kernel))) rfl
set_option maxRecDepth 20000 in
theorem kd_X9_academy : Cond.code yX9_academy prog_1_method_3_code 2 (Option.some FieldType.int) ∈ zTbl := zTbl_of (zin_3 (List.mem_of_getElem? (i := 209) rfl)) rfl
theorem wM_X9_104 : Cond.methodLink RX9 104 yX9_openText ∈ zTbl := zTbl_of (zin_3 (List.mem_of_getElem? (i := 210) (by decide +kernel))) rfl
theorem mi_X9_openText : Cond.instanceMethod yX9_openText ∈ zTbl := zTbl_of (zin_3 (List.mem_of_getElem? (i := 212) (by decide +kernel))) rfl
set_option maxRecDepth 20000 in
theorem kd_X9_openText : Cond.code yX9_openText prog_1_method_54_code 3 (Option.none : Option FieldType) ∈ zTbl := zTbl_of (zin_3 (List.mem_of_getElem? (i := 213) rfl)) rfl
theorem wM_X9_231 : Cond.methodLink RX9 231 yJ9_min_7cf53 ∈ zTbl := zTbl_of (zin_3 (List.mem_of_getElem? (i := 214) (by decide +kernel))) rfl
theorem wM_X9_150 : Cond.methodLink RX9 150 yX9_within ∈ zTbl := zTbl_of (zin_3 (List.mem_of_getElem? (i := 217) (by decide +kernel))) rfl
theorem ms_X9_within : Cond.static yX9_within ∈ zTbl := zTbl_of (zin_3 (List.mem_of_getElem? (i := 218) (by decide +kernel))) rfl
set_option maxRecDepth 20000 in
theorem kd_X9_within : Cond.code yX9_within prog_1_method_58_code 3 (Option.some FieldType.boolean) ∈ zTbl := zTbl_of (zin_3 (List.mem_of_getElem? (i := 219) rfl)) rfl
theorem wM_X9_154 : Cond.methodLink RX9 154 yX9_need ∈ zTbl := zTbl_of (zin_3 (List.mem_of_getElem? (i := 220) (by decide +kernel))) rfl
theorem mi_X9_need : Cond.instanceMethod yX9_need ∈ zTbl := zTbl_of (zin_3 (List.mem_of_getElem? (i := 222) (by decide +kernel))) rfl
set_option maxRecDepth 20000 in
theorem kd_X9_need : Cond.code yX9_need prog_1_method_57_code 2 (Option.none : Option FieldType) ∈ zTbl := zTbl_of (zin_3 (List.mem_of_getElem? (i := 223) rfl)) rfl
theorem wM_X9_369 : Cond.methodLink RX9 369 yX8_open ∈ zTbl := zTbl_of (zin_4 (List.mem_of_getElem? (i := 46) (by decide +kernel))) rfl
theorem mi_X8_open : Cond.instanceMethod yX8_open ∈ zTbl := zTbl_of (zin_4 (List.mem_of_getElem? (i := 47) (by decide +kernel))) rfl
theorem sl_X8_open : Cond.selects RX8 yX8_open yX8_open ∈ zTbl := zTbl_of (zin_4 (List.mem_of_getElem? (i := 48) (by decide +kernel))) rfl
set_option maxRecDepth 20000 in
theorem kd_X8_open : Cond.code yX8_open prog_10_method_3_code 2 (Option.none : Option FieldType) ∈ zTbl := zTbl_of (zin_4 (List.mem_of_getElem? (i := 49) rfl)) rfl
theorem wM_X9_108 : Cond.methodLink RX9 108 yX0_read ∈ zTbl := zTbl_of (zin_4 (List.mem_of_getElem? (i := 50) (by decide +kernel))) rfl
theorem mi_X8_look : Cond.instanceMethod yX8_look ∈ zTbl := zTbl_of (zin_4 (List.mem_of_getElem? (i := 55) (by decide +kernel))) rfl
theorem sl_X8_look : Cond.selects RX8 yX8_look yX8_look ∈ zTbl := zTbl_of (zin_4 (List.mem_of_getElem? (i := 56) (by decide +kernel))) rfl
set_option maxRecDepth 20000 in
theorem kd_X8_look : Cond.code yX8_look prog_10_method_5_code 1 (Option.some FieldType.int) ∈ zTbl := zTbl_of (zin_4 (List.mem_of_getElem? (i := 57) rfl)) rfl
theorem mi_X8_lookAt : Cond.instanceMethod yX8_lookAt ∈ zTbl := zTbl_of (zin_4 (List.mem_of_getElem? (i := 63) (by decide +kernel))) rfl
theorem sl_X8_lookAt : Cond.selects RX8 yX8_lookAt yX8_lookAt ∈ zTbl := zTbl_of (zin_4 (List.mem_of_getElem? (i := 64) (by decide +kernel))) rfl
set_option maxRecDepth 20000 in
theorem kd_X8_lookAt : Cond.code yX8_lookAt prog_10_method_6_code 1 (Option.some FieldType.int) ∈ zTbl := zTbl_of (zin_4 (List.mem_of_getElem? (i := 65) rfl)) rfl
theorem wM_X8_31 : Cond.methodLink RX8 31 yX8_look ∈ zTbl := zTbl_of (zin_4 (List.mem_of_getElem? (i := 66) (by decide +kernel))) rfl
theorem mi_X8_takesWord : Cond.instanceMethod yX8_takesWord ∈ zTbl := zTbl_of (zin_4 (List.mem_of_getElem? (i := 72) (by decide +kernel))) rfl
theorem sl_X8_takesWord : Cond.selects RX8 yX8_takesWord yX8_takesWord ∈ zTbl := zTbl_of (zin_4 (List.mem_of_getElem? (i := 73) (by decide +kernel))) rfl
set_option maxRecDepth 20000 in
theorem kd_X8_takesWord : Cond.code yX8_takesWord prog_10_method_12_code 4 (Option.some FieldType.boolean) ∈ zTbl := zTbl_of (zin_4 (List.mem_of_getElem? (i := 74) rfl)) rfl
theorem wM_X8_46 : Cond.methodLink RX8 46 yX8_byteAt ∈ zTbl := zTbl_of (zin_4 (List.mem_of_getElem? (i := 75) (by decide +kernel))) rfl
theorem mi_X8_byteAt : Cond.instanceMethod yX8_byteAt ∈ zTbl := zTbl_of (zin_4 (List.mem_of_getElem? (i := 77) (by decide +kernel))) rfl
set_option maxRecDepth 20000 in
theorem kd_X8_byteAt : Cond.code yX8_byteAt prog_10_method_14_code 2 (Option.some FieldType.int) ∈ zTbl := zTbl_of (zin_4 (List.mem_of_getElem? (i := 78) rfl)) rfl
theorem wM_X8_35 : Cond.methodLink RX8 35 yX8_isLetter ∈ zTbl := zTbl_of (zin_4 (List.mem_of_getElem? (i := 79) (by decide +kernel))) rfl
theorem ms_X8_isLetter : Cond.static yX8_isLetter ∈ zTbl := zTbl_of (zin_4 (List.mem_of_getElem? (i := 80) (by decide +kernel))) rfl
set_option maxRecDepth 20000 in
theorem kd_X8_isLetter : Cond.code yX8_isLetter prog_10_method_15_code 1 (Option.some FieldType.boolean) ∈ zTbl := zTbl_of (zin_4 (List.mem_of_getElem? (i := 81) rfl)) rfl
theorem wM_X8_50 : Cond.methodLink RX8 50 yJ0_length_8abf5 ∈ zTbl := zTbl_of (zin_4 (List.mem_of_getElem? (i := 82) (by decide +kernel))) rfl
theorem wM_X8_55 : Cond.methodLink RX8 55 yJ0_charAt_5068e ∈ zTbl := zTbl_of (zin_4 (List.mem_of_getElem? (i := 92) (by decide +kernel))) rfl
theorem mi_X8_fail : Cond.instanceMethod yX8_fail ∈ zTbl := zTbl_of (zin_4 (List.mem_of_getElem? (i := 136) (by decide +kernel))) rfl
theorem sl_X8_fail : Cond.selects RX8 yX8_fail yX8_fail ∈ zTbl := zTbl_of (zin_4 (List.mem_of_getElem? (i := 137) (by decide +kernel))) rfl
set_option maxRecDepth 20000 in
theorem kd_X8_fail : Cond.code yX8_fail prog_10_method_4_code 3 (Option.none : Option FieldType) ∈ zTbl := zTbl_of (zin_4 (List.mem_of_getElem? (i := 138) rfl)) rfl
theorem mi_X8_number : Cond.instanceMethod yX8_number ∈ zTbl := zTbl_of (zin_4 (List.mem_of_getElem? (i := 148) (by decide +kernel))) rfl
theorem sl_X8_number : Cond.selects RX8 yX8_number yX8_number ∈ zTbl := zTbl_of (zin_4 (List.mem_of_getElem? (i := 149) (by decide +kernel))) rfl
set_option maxRecDepth 20000 in
theorem kd_X8_number : Cond.code yX8_number prog_10_method_13_code 6 (Option.some FieldType.int) ∈ zTbl := zTbl_of (zin_4 (List.mem_of_getElem? (i := 150) rfl)) rfl
theorem wM_X8_59 : Cond.methodLink RX8 59 yX8_looksAtDigit ∈ zTbl := zTbl_of (zin_4 (List.mem_of_getElem? (i := 151) (by decide +kernel))) rfl
theorem mi_X8_looksAtDigit : Cond.instanceMethod yX8_looksAtDigit ∈ zTbl := zTbl_of (zin_4 (List.mem_of_getElem? (i := 152) (by decide +kernel))) rfl
theorem sl_X8_looksAtDigit : Cond.selects RX8 yX8_looksAtDigit yX8_looksAtDigit ∈ zTbl := zTbl_of (zin_4 (List.mem_of_getElem? (i := 153) (by decide +kernel))) rfl
set_option maxRecDepth 20000 in
theorem kd_X8_looksAtDigit : Cond.code yX8_looksAtDigit prog_10_method_8_code 1 (Option.some FieldType.boolean) ∈ zTbl := zTbl_of (zin_4 (List.mem_of_getElem? (i := 154) rfl)) rfl
theorem wM_X8_39 : Cond.methodLink RX8 39 yX8_isDigit ∈ zTbl := zTbl_of (zin_4 (List.mem_of_getElem? (i := 155) (by decide +kernel))) rfl
theorem ms_X8_isDigit : Cond.static yX8_isDigit ∈ zTbl := zTbl_of (zin_4 (List.mem_of_getElem? (i := 156) (by decide +kernel))) rfl
set_option maxRecDepth 20000 in
theorem kd_X8_isDigit : Cond.code yX8_isDigit prog_10_method_16_code 1 (Option.some FieldType.boolean) ∈ zTbl := zTbl_of (zin_4 (List.mem_of_getElem? (i := 157) rfl)) rfl
theorem wM_X8_63 : Cond.methodLink RX8 63 yX8_misfit ∈ zTbl := zTbl_of (zin_4 (List.mem_of_getElem? (i := 158) (by decide +kernel))) rfl
theorem mi_X8_misfit : Cond.instanceMethod yX8_misfit ∈ zTbl := zTbl_of (zin_4 (List.mem_of_getElem? (i := 159) (by decide +kernel))) rfl
theorem sl_X8_misfit : Cond.selects RX8 yX8_misfit yX8_misfit ∈ zTbl := zTbl_of (zin_4 (List.mem_of_getElem? (i := 160) (by decide +kernel))) rfl
set_option maxRecDepth 20000 in
theorem kd_X8_misfit : Cond.code yX8_misfit prog_10_method_9_code 1 (Option.none : Option FieldType) ∈ zTbl := zTbl_of (zin_4 (List.mem_of_getElem? (i := 161) rfl)) rfl
theorem wM_X8_42 : Cond.methodLink RX8 42 yX8_fail ∈ zTbl := zTbl_of (zin_4 (List.mem_of_getElem? (i := 162) (by decide +kernel))) rfl
theorem kC_RX8_66 : Cond.constant RX8 66 (100000 : Int32) ∈ zTbl := zTbl_of (zin_4 (List.mem_of_getElem? (i := 163) (by decide +kernel))) rfl
theorem wM_X8_67 : Cond.methodLink RX8 67 yJ9_min_7cf53 ∈ zTbl := zTbl_of (zin_4 (List.mem_of_getElem? (i := 164) (by decide +kernel))) rfl
theorem wN_X8_73 : Cond.methodLinkNest RX8 73 yX9_within "ContraryChairs" ∈ lw_tbl := zin_4 (List.mem_of_getElem? (i := 165) (by decide +kernel))
theorem wN_X0_135 : Cond.methodLinkNest RX0 135 yX9_set "ContraryChairs" ∈ lw_tbl := zin_4 (List.mem_of_getElem? (i := 166) (by decide +kernel))
theorem mi_X8_sign : Cond.instanceMethod yX8_sign ∈ zTbl := zTbl_of (zin_4 (List.mem_of_getElem? (i := 192) (by decide +kernel))) rfl
theorem sl_X8_sign : Cond.selects RX8 yX8_sign yX8_sign ∈ zTbl := zTbl_of (zin_4 (List.mem_of_getElem? (i := 193) (by decide +kernel))) rfl
set_option maxRecDepth 20000 in
theorem kd_X8_sign : Cond.code yX8_sign prog_10_method_11_code 2 (Option.none : Option FieldType) ∈ zTbl := zTbl_of (zin_4 (List.mem_of_getElem? (i := 194) rfl)) rfl
theorem wM_X9_115 : Cond.methodLink RX9 115 yX0_copy ∈ zTbl := zTbl_of (zin_4 (List.mem_of_getElem? (i := 195) (by decide +kernel))) rfl
theorem wM_X9_119 : Cond.methodLink RX9 119 yX5_beUsual ∈ zTbl := zTbl_of (zin_4 (List.mem_of_getElem? (i := 200) (by decide +kernel))) rfl
theorem wM_X9_128 : Cond.methodLink RX9 128 yX7_open ∈ zTbl := zTbl_of (zin_4 (List.mem_of_getElem? (i := 201) (by decide +kernel))) rfl
theorem mi_X9_law : Cond.instanceMethod yX9_law ∈ zTbl := zTbl_of (zin_4 (List.mem_of_getElem? (i := 206) (by decide +kernel))) rfl
theorem sl_X9_law : Cond.selects RX9 yX9_law yX9_law ∈ zTbl := zTbl_of (zin_4 (List.mem_of_getElem? (i := 207) (by decide +kernel))) rfl
set_option maxRecDepth 20000 in
theorem kd_X9_law : Cond.code yX9_law prog_1_method_4_code 2 (Option.some FieldType.int) ∈ zTbl := zTbl_of (zin_4 (List.mem_of_getElem? (i := 208) rfl)) rfl
theorem wM_X9_137 : Cond.methodLink RX9 137 yX5_read ∈ zTbl := zTbl_of (zin_4 (List.mem_of_getElem? (i := 209) (by decide +kernel))) rfl
theorem mi_X8_takesSign : Cond.instanceMethod yX8_takesSign ∈ zTbl := zTbl_of (zin_4 (List.mem_of_getElem? (i := 229) (by decide +kernel))) rfl
theorem sl_X8_takesSign : Cond.selects RX8 yX8_takesSign yX8_takesSign ∈ zTbl := zTbl_of (zin_4 (List.mem_of_getElem? (i := 230) (by decide +kernel))) rfl
set_option maxRecDepth 20000 in
theorem kd_X8_takesSign : Cond.code yX8_takesSign prog_10_method_10_code 2 (Option.some FieldType.boolean) ∈ zTbl := zTbl_of (zin_4 (List.mem_of_getElem? (i := 231) rfl)) rfl
theorem wM_X9_138 : Cond.methodLink RX9 138 yX5_copy ∈ zTbl := zTbl_of (zin_5 (List.mem_of_getElem? (i := 18) (by decide +kernel))) rfl
theorem mi_X9_book : Cond.instanceMethod yX9_book ∈ zTbl := zTbl_of (zin_5 (List.mem_of_getElem? (i := 27) (by decide +kernel))) rfl
theorem sl_X9_book : Cond.selects RX9 yX9_book yX9_book ∈ zTbl := zTbl_of (zin_5 (List.mem_of_getElem? (i := 28) (by decide +kernel))) rfl
set_option maxRecDepth 20000 in
theorem kd_X9_book : Cond.code yX9_book prog_1_method_5_code 2 (Option.some FieldType.int) ∈ zTbl := zTbl_of (zin_5 (List.mem_of_getElem? (i := 29) rfl)) rfl
theorem wM_X9_141 : Cond.methodLink RX9 141 yX1_read ∈ zTbl := zTbl_of (zin_5 (List.mem_of_getElem? (i := 30) (by decide +kernel))) rfl
theorem mi_X8_looksAtLetter : Cond.instanceMethod yX8_looksAtLetter ∈ zTbl := zTbl_of (zin_5 (List.mem_of_getElem? (i := 43) (by decide +kernel))) rfl
theorem sl_X8_looksAtLetter : Cond.selects RX8 yX8_looksAtLetter yX8_looksAtLetter ∈ zTbl := zTbl_of (zin_5 (List.mem_of_getElem? (i := 44) (by decide +kernel))) rfl
set_option maxRecDepth 20000 in
theorem kd_X8_looksAtLetter : Cond.code yX8_looksAtLetter prog_10_method_7_code 1 (Option.some FieldType.boolean) ∈ zTbl := zTbl_of (zin_5 (List.mem_of_getElem? (i := 45) rfl)) rfl
theorem wN_X1_66 : Cond.methodLinkNest RX1 66 yX9_set "ContraryChairs" ∈ lw_tbl := zin_5 (List.mem_of_getElem? (i := 50) (by decide +kernel))
theorem wM_X9_144 : Cond.methodLink RX9 144 yX1_copy ∈ zTbl := zTbl_of (zin_5 (List.mem_of_getElem? (i := 51) (by decide +kernel))) rfl
theorem mi_X9_told : Cond.instanceMethod yX9_told ∈ zTbl := zTbl_of (zin_5 (List.mem_of_getElem? (i := 60) (by decide +kernel))) rfl
theorem sl_X9_told : Cond.selects RX9 yX9_told yX9_told ∈ zTbl := zTbl_of (zin_5 (List.mem_of_getElem? (i := 61) (by decide +kernel))) rfl
set_option maxRecDepth 20000 in
theorem kd_X9_told : Cond.code yX9_told prog_1_method_7_code 2 (Option.some FieldType.int) ∈ zTbl := zTbl_of (zin_5 (List.mem_of_getElem? (i := 62) rfl)) rfl
theorem wM_X9_170 : Cond.methodLink RX9 170 yX3_waitingMen ∈ zTbl := zTbl_of (zin_5 (List.mem_of_getElem? (i := 63) (by decide +kernel))) rfl
theorem mi_X9_man : Cond.instanceMethod yX9_man ∈ zTbl := zTbl_of (zin_5 (List.mem_of_getElem? (i := 73) (by decide +kernel))) rfl
theorem sl_X9_man : Cond.selects RX9 yX9_man yX9_man ∈ zTbl := zTbl_of (zin_5 (List.mem_of_getElem? (i := 74) (by decide +kernel))) rfl
set_option maxRecDepth 20000 in
theorem kd_X9_man : Cond.code yX9_man prog_1_method_8_code 3 (Option.some FieldType.int) ∈ zTbl := zTbl_of (zin_5 (List.mem_of_getElem? (i := 75) rfl)) rfl
theorem wM_X9_180 : Cond.methodLink RX9 180 yX9_needMan ∈ zTbl := zTbl_of (zin_5 (List.mem_of_getElem? (i := 76) (by decide +kernel))) rfl
theorem mi_X9_needMan : Cond.instanceMethod yX9_needMan ∈ zTbl := zTbl_of (zin_5 (List.mem_of_getElem? (i := 78) (by decide +kernel))) rfl
set_option maxRecDepth 20000 in
theorem kd_X9_needMan : Cond.code yX9_needMan prog_1_method_55_code 2 (Option.none : Option FieldType) ∈ zTbl := zTbl_of (zin_5 (List.mem_of_getElem? (i := 79) rfl)) rfl
theorem wM_X9_183 : Cond.methodLink RX9 183 yX0_ageIn ∈ zTbl := zTbl_of (zin_5 (List.mem_of_getElem? (i := 95) (by decide +kernel))) rfl
theorem wM_X9_195 : Cond.methodLink RX9 195 yX7_chairOf ∈ zTbl := zTbl_of (zin_5 (List.mem_of_getElem? (i := 96) (by decide +kernel))) rfl
theorem mi_X9_sides : Cond.instanceMethod yX9_sides ∈ zTbl := zTbl_of (zin_5 (List.mem_of_getElem? (i := 101) (by decide +kernel))) rfl
theorem sl_X9_sides : Cond.selects RX9 yX9_sides yX9_sides ∈ zTbl := zTbl_of (zin_5 (List.mem_of_getElem? (i := 102) (by decide +kernel))) rfl
set_option maxRecDepth 20000 in
theorem kd_X9_sides : Cond.code yX9_sides prog_1_method_9_code 2 (Option.some FieldType.int) ∈ zTbl := zTbl_of (zin_5 (List.mem_of_getElem? (i := 103) rfl)) rfl
theorem wM_X9_205 : Cond.methodLink RX9 205 yX9_needQuestion ∈ zTbl := zTbl_of (zin_5 (List.mem_of_getElem? (i := 104) (by decide +kernel))) rfl
theorem mi_X9_needQuestion : Cond.instanceMethod yX9_needQuestion ∈ zTbl := zTbl_of (zin_5 (List.mem_of_getElem? (i := 106) (by decide +kernel))) rfl
set_option maxRecDepth 20000 in
theorem kd_X9_needQuestion : Cond.code yX9_needQuestion prog_1_method_56_code 2 (Option.none : Option FieldType) ∈ zTbl := zTbl_of (zin_5 (List.mem_of_getElem? (i := 107) rfl)) rfl
theorem mi_X9_believes : Cond.instanceMethod yX9_believes ∈ zTbl := zTbl_of (zin_5 (List.mem_of_getElem? (i := 112) (by decide +kernel))) rfl
theorem sl_X9_believes : Cond.selects RX9 yX9_believes yX9_believes ∈ zTbl := zTbl_of (zin_5 (List.mem_of_getElem? (i := 113) (by decide +kernel))) rfl
set_option maxRecDepth 20000 in
theorem kd_X9_believes : Cond.code yX9_believes prog_1_method_10_code 3 (Option.some FieldType.int) ∈ zTbl := zTbl_of (zin_5 (List.mem_of_getElem? (i := 114) rfl)) rfl
theorem wM_X9_211 : Cond.methodLink RX9 211 yX0_sideOf ∈ zTbl := zTbl_of (zin_5 (List.mem_of_getElem? (i := 115) (by decide +kernel))) rfl
theorem mi_X9_chair : Cond.instanceMethod yX9_chair ∈ zTbl := zTbl_of (zin_5 (List.mem_of_getElem? (i := 123) (by decide +kernel))) rfl
theorem sl_X9_chair : Cond.selects RX9 yX9_chair yX9_chair ∈ zTbl := zTbl_of (zin_5 (List.mem_of_getElem? (i := 124) (by decide +kernel))) rfl
set_option maxRecDepth 20000 in
theorem kd_X9_chair : Cond.code yX9_chair prog_1_method_11_code 2 (Option.some FieldType.int) ∈ zTbl := zTbl_of (zin_5 (List.mem_of_getElem? (i := 125) rfl)) rfl
theorem wM_X9_214 : Cond.methodLink RX9 214 yX7_onChair ∈ zTbl := zTbl_of (zin_5 (List.mem_of_getElem? (i := 126) (by decide +kernel))) rfl
theorem mi_X9_differs : Cond.instanceMethod yX9_differs ∈ zTbl := zTbl_of (zin_5 (List.mem_of_getElem? (i := 131) (by decide +kernel))) rfl
theorem sl_X9_differs : Cond.selects RX9 yX9_differs yX9_differs ∈ zTbl := zTbl_of (zin_5 (List.mem_of_getElem? (i := 132) (by decide +kernel))) rfl
set_option maxRecDepth 20000 in
theorem kd_X9_differs : Cond.code yX9_differs prog_1_method_12_code 3 (Option.some FieldType.int) ∈ zTbl := zTbl_of (zin_5 (List.mem_of_getElem? (i := 133) rfl)) rfl
theorem wM_X9_217 : Cond.methodLink RX9 217 yX0_differing ∈ zTbl := zTbl_of (zin_5 (List.mem_of_getElem? (i := 134) (by decide +kernel))) rfl
theorem mi_X9_score : Cond.instanceMethod yX9_score ∈ zTbl := zTbl_of (zin_5 (List.mem_of_getElem? (i := 139) (by decide +kernel))) rfl
theorem sl_X9_score : Cond.selects RX9 yX9_score yX9_score ∈ zTbl := zTbl_of (zin_5 (List.mem_of_getElem? (i := 140) (by decide +kernel))) rfl
set_option maxRecDepth 20000 in
theorem kd_X9_score : Cond.code yX9_score prog_1_method_13_code 2 (Option.some FieldType.int) ∈ zTbl := zTbl_of (zin_5 (List.mem_of_getElem? (i := 141) rfl)) rfl
theorem wM_X9_220 : Cond.methodLink RX9 220 yX2_scoreOf ∈ zTbl := zTbl_of (zin_5 (List.mem_of_getElem? (i := 142) (by decide +kernel))) rfl
theorem mi_X9_years : Cond.instanceMethod yX9_years ∈ zTbl := zTbl_of (zin_5 (List.mem_of_getElem? (i := 147) (by decide +kernel))) rfl
theorem sl_X9_years : Cond.selects RX9 yX9_years yX9_years ∈ zTbl := zTbl_of (zin_5 (List.mem_of_getElem? (i := 148) (by decide +kernel))) rfl
set_option maxRecDepth 20000 in
theorem kd_X9_years : Cond.code yX9_years prog_1_method_15_code 3 (Option.some FieldType.int) ∈ zTbl := zTbl_of (zin_5 (List.mem_of_getElem? (i := 149) rfl)) rfl
theorem wM_X9_227 : Cond.methodLink RX9 227 yX2_pass ∈ zTbl := zTbl_of (zin_5 (List.mem_of_getElem? (i := 150) (by decide +kernel))) rfl
theorem mi_X9_undo : Cond.instanceMethod yX9_undo ∈ zTbl := zTbl_of (zin_5 (List.mem_of_getElem? (i := 155) (by decide +kernel))) rfl
theorem sl_X9_undo : Cond.selects RX9 yX9_undo yX9_undo ∈ zTbl := zTbl_of (zin_5 (List.mem_of_getElem? (i := 156) (by decide +kernel))) rfl
set_option maxRecDepth 20000 in
theorem kd_X9_undo : Cond.code yX9_undo prog_1_method_16_code 5 (Option.some FieldType.int) ∈ zTbl := zTbl_of (zin_5 (List.mem_of_getElem? (i := 157) rfl)) rfl
theorem mi_X9_sums : Cond.instanceMethod yX9_sums ∈ zTbl := zTbl_of (zin_5 (List.mem_of_getElem? (i := 162) (by decide +kernel))) rfl
theorem sl_X9_sums : Cond.selects RX9 yX9_sums yX9_sums ∈ zTbl := zTbl_of (zin_5 (List.mem_of_getElem? (i := 163) (by decide +kernel))) rfl
set_option maxRecDepth 20000 in
theorem kd_X9_sums : Cond.code yX9_sums prog_1_method_18_code 2 (Option.some FieldType.int) ∈ zTbl := zTbl_of (zin_5 (List.mem_of_getElem? (i := 164) rfl)) rfl
theorem mi_X9_die : Cond.instanceMethod yX9_die ∈ zTbl := zTbl_of (zin_5 (List.mem_of_getElem? (i := 169) (by decide +kernel))) rfl
theorem sl_X9_die : Cond.selects RX9 yX9_die yX9_die ∈ zTbl := zTbl_of (zin_5 (List.mem_of_getElem? (i := 170) (by decide +kernel))) rfl
set_option maxRecDepth 20000 in
theorem kd_X9_die : Cond.code yX9_die prog_1_method_19_code 3 (Option.some FieldType.int) ∈ zTbl := zTbl_of (zin_5 (List.mem_of_getElem? (i := 171) rfl)) rfl
theorem wM_X9_248 : Cond.methodLink RX9 248 yX2_kill ∈ zTbl := zTbl_of (zin_5 (List.mem_of_getElem? (i := 172) (by decide +kernel))) rfl
theorem mi_X9_praise : Cond.instanceMethod yX9_praise ∈ zTbl := zTbl_of (zin_5 (List.mem_of_getElem? (i := 177) (by decide +kernel))) rfl
theorem sl_X9_praise : Cond.selects RX9 yX9_praise yX9_praise ∈ zTbl := zTbl_of (zin_5 (List.mem_of_getElem? (i := 178) (by decide +kernel))) rfl
set_option maxRecDepth 20000 in
theorem kd_X9_praise : Cond.code yX9_praise prog_1_method_20_code 3 (Option.some FieldType.int) ∈ zTbl := zTbl_of (zin_5 (List.mem_of_getElem? (i := 179) rfl)) rfl
theorem wM_X9_251 : Cond.methodLink RX9 251 yX7_isWaiting ∈ zTbl := zTbl_of (zin_5 (List.mem_of_getElem? (i := 180) (by decide +kernel))) rfl
theorem wM_X9_258 : Cond.methodLink RX9 258 yX7_praiseMore ∈ zTbl := zTbl_of (zin_5 (List.mem_of_getElem? (i := 181) (by decide +kernel))) rfl
theorem mi_X7_praiseMore : Cond.instanceMethod yX7_praiseMore ∈ zTbl := zTbl_of (zin_5 (List.mem_of_getElem? (i := 182) (by decide +kernel))) rfl
theorem sl_X7_praiseMore : Cond.selects RX7 yX7_praiseMore yX7_praiseMore ∈ zTbl := zTbl_of (zin_5 (List.mem_of_getElem? (i := 183) (by decide +kernel))) rfl
set_option maxRecDepth 20000 in
theorem kd_X7_praiseMore : Cond.code yX7_praiseMore prog_9_method_12_code 4 (Option.none : Option FieldType) ∈ zTbl := zTbl_of (zin_5 (List.mem_of_getElem? (i := 184) rfl)) rfl
theorem mi_X9_ahead : Cond.instanceMethod yX9_ahead ∈ zTbl := zTbl_of (zin_5 (List.mem_of_getElem? (i := 189) (by decide +kernel))) rfl
theorem sl_X9_ahead : Cond.selects RX9 yX9_ahead yX9_ahead ∈ zTbl := zTbl_of (zin_5 (List.mem_of_getElem? (i := 190) (by decide +kernel))) rfl
set_option maxRecDepth 20000 in
theorem kd_X9_ahead : Cond.code yX9_ahead prog_1_method_21_code 3 (Option.some FieldType.int) ∈ zTbl := zTbl_of (zin_5 (List.mem_of_getElem? (i := 191) rfl)) rfl
theorem wM_X9_261 : Cond.methodLink RX9 261 yX4_behind ∈ zTbl := zTbl_of (zin_5 (List.mem_of_getElem? (i := 192) (by decide +kernel))) rfl
theorem mi_X9_when : Cond.instanceMethod yX9_when ∈ zTbl := zTbl_of (zin_5 (List.mem_of_getElem? (i := 201) (by decide +kernel))) rfl
theorem sl_X9_when : Cond.selects RX9 yX9_when yX9_when ∈ zTbl := zTbl_of (zin_5 (List.mem_of_getElem? (i := 202) (by decide +kernel))) rfl
set_option maxRecDepth 20000 in
theorem kd_X9_when : Cond.code yX9_when prog_1_method_22_code 2 (Option.some FieldType.int) ∈ zTbl := zTbl_of (zin_5 (List.mem_of_getElem? (i := 203) rfl)) rfl
theorem mi_X9_praises : Cond.instanceMethod yX9_praises ∈ zTbl := zTbl_of (zin_5 (List.mem_of_getElem? (i := 208) (by decide +kernel))) rfl
theorem sl_X9_praises : Cond.selects RX9 yX9_praises yX9_praises ∈ zTbl := zTbl_of (zin_5 (List.mem_of_getElem? (i := 209) (by decide +kernel))) rfl
set_option maxRecDepth 20000 in
theorem kd_X9_praises : Cond.code yX9_praises prog_1_method_24_code 5 (Option.some FieldType.int) ∈ zTbl := zTbl_of (zin_5 (List.mem_of_getElem? (i := 210) rfl)) rfl
theorem wM_X9_267 : Cond.methodLink RX9 267 yX4_waysToPraise ∈ zTbl := zTbl_of (zin_5 (List.mem_of_getElem? (i := 211) (by decide +kernel))) rfl
theorem wN_X4_99 : Cond.methodLinkNest RX4 99 yX9_set "ContraryChairs" ∈ lw_tbl := zin_5 (List.mem_of_getElem? (i := 215) (by decide +kernel))
theorem kC_RX4_126 : Cond.constant RX4 126 (1000000 : Int32) ∈ zTbl := zTbl_of (zin_5 (List.mem_of_getElem? (i := 216) (by decide +kernel))) rfl
theorem wN_X4_70 : Cond.methodLinkNest RX4 70 yX9_get "ContraryChairs" ∈ lw_tbl := zin_5 (List.mem_of_getElem? (i := 217) (by decide +kernel))
theorem mi_X9_beliefs : Cond.instanceMethod yX9_beliefs ∈ zTbl := zTbl_of (zin_6 (List.mem_of_getElem? (i := 1) (by decide +kernel))) rfl
theorem sl_X9_beliefs : Cond.selects RX9 yX9_beliefs yX9_beliefs ∈ zTbl := zTbl_of (zin_6 (List.mem_of_getElem? (i := 2) (by decide +kernel))) rfl
set_option maxRecDepth 20000 in
theorem kd_X9_beliefs : Cond.code yX9_beliefs prog_1_method_25_code 3 (Option.some FieldType.int) ∈ zTbl := zTbl_of (zin_6 (List.mem_of_getElem? (i := 3) rfl)) rfl
theorem wM_X9_271 : Cond.methodLink RX9 271 yX6_tryBeliefs ∈ zTbl := zTbl_of (zin_6 (List.mem_of_getElem? (i := 4) (by decide +kernel))) rfl
theorem mi_X9_sure : Cond.instanceMethod yX9_sure ∈ zTbl := zTbl_of (zin_6 (List.mem_of_getElem? (i := 32) (by decide +kernel))) rfl
theorem sl_X9_sure : Cond.selects RX9 yX9_sure yX9_sure ∈ zTbl := zTbl_of (zin_6 (List.mem_of_getElem? (i := 33) (by decide +kernel))) rfl
set_option maxRecDepth 20000 in
theorem kd_X9_sure : Cond.code yX9_sure prog_1_method_26_code 3 (Option.some FieldType.int) ∈ zTbl := zTbl_of (zin_6 (List.mem_of_getElem? (i := 34) rfl)) rfl
theorem wM_X9_280 : Cond.methodLink RX9 280 yX6_onlySide ∈ zTbl := zTbl_of (zin_6 (List.mem_of_getElem? (i := 35) (by decide +kernel))) rfl
theorem mi_X9_dead : Cond.instanceMethod yX9_dead ∈ zTbl := zTbl_of (zin_6 (List.mem_of_getElem? (i := 43) (by decide +kernel))) rfl
theorem sl_X9_dead : Cond.selects RX9 yX9_dead yX9_dead ∈ zTbl := zTbl_of (zin_6 (List.mem_of_getElem? (i := 44) (by decide +kernel))) rfl
set_option maxRecDepth 20000 in
theorem kd_X9_dead : Cond.code yX9_dead prog_1_method_27_code 2 (Option.some FieldType.int) ∈ zTbl := zTbl_of (zin_6 (List.mem_of_getElem? (i := 45) rfl)) rfl
theorem wM_X9_283 : Cond.methodLink RX9 283 yX6_deathsThatFit ∈ zTbl := zTbl_of (zin_6 (List.mem_of_getElem? (i := 46) (by decide +kernel))) rfl
theorem kC_RX6_89 : Cond.constant RX6 89 (65536 : Int32) ∈ zTbl := zTbl_of (zin_6 (List.mem_of_getElem? (i := 50) (by decide +kernel))) rfl
theorem mi_X9_enemy : Cond.instanceMethod yX9_enemy ∈ zTbl := zTbl_of (zin_6 (List.mem_of_getElem? (i := 55) (by decide +kernel))) rfl
theorem sl_X9_enemy : Cond.selects RX9 yX9_enemy yX9_enemy ∈ zTbl := zTbl_of (zin_6 (List.mem_of_getElem? (i := 56) (by decide +kernel))) rfl
set_option maxRecDepth 20000 in
theorem kd_X9_enemy : Cond.code yX9_enemy prog_1_method_29_code 2 (Option.some FieldType.int) ∈ zTbl := zTbl_of (zin_6 (List.mem_of_getElem? (i := 57) rfl)) rfl
theorem wM_X9_289 : Cond.methodLink RX9 289 yX3_worstEnemy ∈ zTbl := zTbl_of (zin_6 (List.mem_of_getElem? (i := 58) (by decide +kernel))) rfl
theorem mi_X9_ring : Cond.instanceMethod yX9_ring ∈ zTbl := zTbl_of (zin_6 (List.mem_of_getElem? (i := 63) (by decide +kernel))) rfl
theorem sl_X9_ring : Cond.selects RX9 yX9_ring yX9_ring ∈ zTbl := zTbl_of (zin_6 (List.mem_of_getElem? (i := 64) (by decide +kernel))) rfl
set_option maxRecDepth 20000 in
theorem kd_X9_ring : Cond.code yX9_ring prog_1_method_30_code 3 (Option.some FieldType.int) ∈ zTbl := zTbl_of (zin_6 (List.mem_of_getElem? (i := 65) rfl)) rfl
theorem wM_X9_292 : Cond.methodLink RX9 292 yX3_ringFrom ∈ zTbl := zTbl_of (zin_6 (List.mem_of_getElem? (i := 66) (by decide +kernel))) rfl
theorem mi_X9_vote : Cond.instanceMethod yX9_vote ∈ zTbl := zTbl_of (zin_6 (List.mem_of_getElem? (i := 75) (by decide +kernel))) rfl
theorem sl_X9_vote : Cond.selects RX9 yX9_vote yX9_vote ∈ zTbl := zTbl_of (zin_6 (List.mem_of_getElem? (i := 76) (by decide +kernel))) rfl
set_option maxRecDepth 20000 in
theorem kd_X9_vote : Cond.code yX9_vote prog_1_method_31_code 4 (Option.some FieldType.int) ∈ zTbl := zTbl_of (zin_6 (List.mem_of_getElem? (i := 77) rfl)) rfl
theorem wM_X9_295 : Cond.methodLink RX9 295 yX3_voteBy ∈ zTbl := zTbl_of (zin_6 (List.mem_of_getElem? (i := 78) (by decide +kernel))) rfl
theorem wN_X3_63 : Cond.methodLinkNest RX3 63 yX9_get "ContraryChairs" ∈ lw_tbl := zin_6 (List.mem_of_getElem? (i := 95) (by decide +kernel))
theorem wN_X3_67 : Cond.methodLinkNest RX3 67 yX9_set "ContraryChairs" ∈ lw_tbl := zin_6 (List.mem_of_getElem? (i := 96) (by decide +kernel))
theorem mi_X9_skip : Cond.instanceMethod yX9_skip ∈ zTbl := zTbl_of (zin_6 (List.mem_of_getElem? (i := 105) (by decide +kernel))) rfl
theorem sl_X9_skip : Cond.selects RX9 yX9_skip yX9_skip ∈ zTbl := zTbl_of (zin_6 (List.mem_of_getElem? (i := 106) (by decide +kernel))) rfl
set_option maxRecDepth 20000 in
theorem kd_X9_skip : Cond.code yX9_skip prog_1_method_32_code 2 (Option.some FieldType.int) ∈ zTbl := zTbl_of (zin_6 (List.mem_of_getElem? (i := 107) rfl)) rfl
theorem wM_X9_299 : Cond.methodLink RX9 299 yX3_longestSkip ∈ zTbl := zTbl_of (zin_6 (List.mem_of_getElem? (i := 108) (by decide +kernel))) rfl
theorem mi_X9_flip : Cond.instanceMethod yX9_flip ∈ zTbl := zTbl_of (zin_6 (List.mem_of_getElem? (i := 117) (by decide +kernel))) rfl
theorem sl_X9_flip : Cond.selects RX9 yX9_flip yX9_flip ∈ zTbl := zTbl_of (zin_6 (List.mem_of_getElem? (i := 118) (by decide +kernel))) rfl
set_option maxRecDepth 20000 in
theorem kd_X9_flip : Cond.code yX9_flip prog_1_method_34_code 2 (Option.some FieldType.int) ∈ zTbl := zTbl_of (zin_6 (List.mem_of_getElem? (i := 119) rfl)) rfl
theorem wM_X9_305 : Cond.methodLink RX9 305 yX3_fewestToFlip ∈ zTbl := zTbl_of (zin_6 (List.mem_of_getElem? (i := 120) (by decide +kernel))) rfl
theorem mi_X9_patrons : Cond.instanceMethod yX9_patrons ∈ zTbl := zTbl_of (zin_6 (List.mem_of_getElem? (i := 133) (by decide +kernel))) rfl
theorem sl_X9_patrons : Cond.selects RX9 yX9_patrons yX9_patrons ∈ zTbl := zTbl_of (zin_6 (List.mem_of_getElem? (i := 134) (by decide +kernel))) rfl
set_option maxRecDepth 20000 in
theorem kd_X9_patrons : Cond.code yX9_patrons prog_1_method_35_code 5 (Option.some FieldType.int) ∈ zTbl := zTbl_of (zin_6 (List.mem_of_getElem? (i := 135) rfl)) rfl
theorem wM_X9_308 : Cond.methodLink RX9 308 yX4_quietPairs ∈ zTbl := zTbl_of (zin_6 (List.mem_of_getElem? (i := 136) (by decide +kernel))) rfl
theorem mi_X9_allies : Cond.instanceMethod yX9_allies ∈ zTbl := zTbl_of (zin_6 (List.mem_of_getElem? (i := 162) (by decide +kernel))) rfl
theorem sl_X9_allies : Cond.selects RX9 yX9_allies yX9_allies ∈ zTbl := zTbl_of (zin_6 (List.mem_of_getElem? (i := 163) (by decide +kernel))) rfl
set_option maxRecDepth 20000 in
theorem kd_X9_allies : Cond.code yX9_allies prog_1_method_36_code 2 (Option.some FieldType.int) ∈ zTbl := zTbl_of (zin_6 (List.mem_of_getElem? (i := 164) rfl)) rfl
theorem wM_X9_311 : Cond.methodLink RX9 311 yX3_alliesOf ∈ zTbl := zTbl_of (zin_6 (List.mem_of_getElem? (i := 165) (by decide +kernel))) rfl
theorem mi_X9_rank : Cond.instanceMethod yX9_rank ∈ zTbl := zTbl_of (zin_6 (List.mem_of_getElem? (i := 173) (by decide +kernel))) rfl
theorem sl_X9_rank : Cond.selects RX9 yX9_rank yX9_rank ∈ zTbl := zTbl_of (zin_6 (List.mem_of_getElem? (i := 174) (by decide +kernel))) rfl
set_option maxRecDepth 20000 in
theorem kd_X9_rank : Cond.code yX9_rank prog_1_method_37_code 2 (Option.some FieldType.int) ∈ zTbl := zTbl_of (zin_6 (List.mem_of_getElem? (i := 175) rfl)) rfl
theorem wM_X9_314 : Cond.methodLink RX9 314 yX4_rankOf ∈ zTbl := zTbl_of (zin_6 (List.mem_of_getElem? (i := 176) (by decide +kernel))) rfl
theorem mi_X9_wants : Cond.instanceMethod yX9_wants ∈ zTbl := zTbl_of (zin_6 (List.mem_of_getElem? (i := 184) (by decide +kernel))) rfl
theorem sl_X9_wants : Cond.selects RX9 yX9_wants yX9_wants ∈ zTbl := zTbl_of (zin_6 (List.mem_of_getElem? (i := 185) (by decide +kernel))) rfl
set_option maxRecDepth 20000 in
theorem kd_X9_wants : Cond.code yX9_wants prog_1_method_39_code 2 (Option.some FieldType.int) ∈ zTbl := zTbl_of (zin_6 (List.mem_of_getElem? (i := 186) rfl)) rfl
theorem wM_X9_320 : Cond.methodLink RX9 320 yX4_praiseWanted ∈ zTbl := zTbl_of (zin_6 (List.mem_of_getElem? (i := 187) (by decide +kernel))) rfl
theorem mi_X9_stays : Cond.instanceMethod yX9_stays ∈ zTbl := zTbl_of (zin_6 (List.mem_of_getElem? (i := 195) (by decide +kernel))) rfl
theorem sl_X9_stays : Cond.selects RX9 yX9_stays yX9_stays ∈ zTbl := zTbl_of (zin_6 (List.mem_of_getElem? (i := 196) (by decide +kernel))) rfl
set_option maxRecDepth 20000 in
theorem kd_X9_stays : Cond.code yX9_stays prog_1_method_40_code 2 (Option.some FieldType.int) ∈ zTbl := zTbl_of (zin_6 (List.mem_of_getElem? (i := 197) rfl)) rfl
theorem wM_X9_323 : Cond.methodLink RX9 323 yX4_yearsLeft ∈ zTbl := zTbl_of (zin_6 (List.mem_of_getElem? (i := 198) (by decide +kernel))) rfl
theorem mi_X9_doomed : Cond.instanceMethod yX9_doomed ∈ zTbl := zTbl_of (zin_6 (List.mem_of_getElem? (i := 206) (by decide +kernel))) rfl
theorem sl_X9_doomed : Cond.selects RX9 yX9_doomed yX9_doomed ∈ zTbl := zTbl_of (zin_6 (List.mem_of_getElem? (i := 207) (by decide +kernel))) rfl
set_option maxRecDepth 20000 in
theorem kd_X9_doomed : Cond.code yX9_doomed prog_1_method_41_code 2 (Option.some FieldType.int) ∈ zTbl := zTbl_of (zin_6 (List.mem_of_getElem? (i := 208) rfl)) rfl
theorem wM_X9_326 : Cond.methodLink RX9 326 yX4_leavingWith ∈ zTbl := zTbl_of (zin_6 (List.mem_of_getElem? (i := 209) (by decide +kernel))) rfl
theorem mi_X9_pair : Cond.instanceMethod yX9_pair ∈ zTbl := zTbl_of (zin_6 (List.mem_of_getElem? (i := 218) (by decide +kernel))) rfl
theorem sl_X9_pair : Cond.selects RX9 yX9_pair yX9_pair ∈ zTbl := zTbl_of (zin_6 (List.mem_of_getElem? (i := 219) (by decide +kernel))) rfl
set_option maxRecDepth 20000 in
theorem kd_X9_pair : Cond.code yX9_pair prog_1_method_44_code 2 (Option.some FieldType.int) ∈ zTbl := zTbl_of (zin_6 (List.mem_of_getElem? (i := 220) rfl)) rfl
theorem wM_X9_335 : Cond.methodLink RX9 335 yX3_mostUnlike ∈ zTbl := zTbl_of (zin_6 (List.mem_of_getElem? (i := 221) (by decide +kernel))) rfl
theorem mi_X9_quorum : Cond.instanceMethod yX9_quorum ∈ zTbl := zTbl_of (zin_6 (List.mem_of_getElem? (i := 229) (by decide +kernel))) rfl
theorem sl_X9_quorum : Cond.selects RX9 yX9_quorum yX9_quorum ∈ zTbl := zTbl_of (zin_6 (List.mem_of_getElem? (i := 230) (by decide +kernel))) rfl
set_option maxRecDepth 20000 in
theorem kd_X9_quorum : Cond.code yX9_quorum prog_1_method_45_code 2 (Option.some FieldType.int) ∈ zTbl := zTbl_of (zin_6 (List.mem_of_getElem? (i := 231) rfl)) rfl
theorem wM_X9_338 : Cond.methodLink RX9 338 yX3_quorumOf ∈ zTbl := zTbl_of (zin_6 (List.mem_of_getElem? (i := 232) (by decide +kernel))) rfl
theorem mi_X9_heir : Cond.instanceMethod yX9_heir ∈ zTbl := zTbl_of (zin_7 (List.mem_of_getElem? (i := 0) (by decide +kernel))) rfl
theorem sl_X9_heir : Cond.selects RX9 yX9_heir yX9_heir ∈ zTbl := zTbl_of (zin_7 (List.mem_of_getElem? (i := 1) (by decide +kernel))) rfl
set_option maxRecDepth 20000 in
theorem kd_X9_heir : Cond.code yX9_heir prog_1_method_47_code 2 (Option.some FieldType.int) ∈ zTbl := zTbl_of (zin_7 (List.mem_of_getElem? (i := 2) rfl)) rfl
theorem wM_X9_344 : Cond.methodLink RX9 344 yX4_heirOf ∈ zTbl := zTbl_of (zin_7 (List.mem_of_getElem? (i := 3) (by decide +kernel))) rfl
theorem mi_X9_fates : Cond.instanceMethod yX9_fates ∈ zTbl := zTbl_of (zin_7 (List.mem_of_getElem? (i := 11) (by decide +kernel))) rfl
theorem sl_X9_fates : Cond.selects RX9 yX9_fates yX9_fates ∈ zTbl := zTbl_of (zin_7 (List.mem_of_getElem? (i := 12) (by decide +kernel))) rfl
set_option maxRecDepth 20000 in
theorem kd_X9_fates : Cond.code yX9_fates prog_1_method_48_code 5 (Option.some FieldType.int) ∈ zTbl := zTbl_of (zin_7 (List.mem_of_getElem? (i := 13) rfl)) rfl
theorem wM_X9_347 : Cond.methodLink RX9 347 yX4_fateOf ∈ zTbl := zTbl_of (zin_7 (List.mem_of_getElem? (i := 14) (by decide +kernel))) rfl
theorem kC_RX4_175 : Cond.constant RX4 175 (1103515245 : Int32) ∈ zTbl := zTbl_of (zin_7 (List.mem_of_getElem? (i := 26) (by decide +kernel))) rfl
theorem mi_X9_span : Cond.instanceMethod yX9_span ∈ zTbl := zTbl_of (zin_7 (List.mem_of_getElem? (i := 32) (by decide +kernel))) rfl
theorem sl_X9_span : Cond.selects RX9 yX9_span yX9_span ∈ zTbl := zTbl_of (zin_7 (List.mem_of_getElem? (i := 33) (by decide +kernel))) rfl
set_option maxRecDepth 20000 in
theorem kd_X9_span : Cond.code yX9_span prog_1_method_49_code 7 (Option.some FieldType.int) ∈ zTbl := zTbl_of (zin_7 (List.mem_of_getElem? (i := 34) rfl)) rfl
theorem wM_X9_350 : Cond.methodLink RX9 350 yX4_tryFates ∈ zTbl := zTbl_of (zin_7 (List.mem_of_getElem? (i := 35) (by decide +kernel))) rfl
theorem sl_X9_openText : Cond.selects RX9 yX9_openText yX9_openText ∈ zTbl := zTbl_of (List.mem_append_left _ (List.mem_of_getElem? (i := 5) (by decide +kernel))) rfl
theorem sl_X9_need : Cond.selects RX9 yX9_need yX9_need ∈ zTbl := zTbl_of (List.mem_append_left _ (List.mem_of_getElem? (i := 6) (by decide +kernel))) rfl
theorem sl_X8_byteAt : Cond.selects RX8 yX8_byteAt yX8_byteAt ∈ zTbl := zTbl_of (List.mem_append_left _ (List.mem_of_getElem? (i := 9) (by decide +kernel))) rfl
theorem sl_X9_needMan : Cond.selects RX9 yX9_needMan yX9_needMan ∈ zTbl := zTbl_of (List.mem_append_left _ (List.mem_of_getElem? (i := 25) (by decide +kernel))) rfl
theorem sl_X9_needQuestion : Cond.selects RX9 yX9_needQuestion yX9_needQuestion ∈ zTbl := zTbl_of (List.mem_append_left _ (List.mem_of_getElem? (i := 26) (by decide +kernel))) rfl
theorem mI_X9_init : zMI yX9_init prog_1_method_1_code 2 (Option.none : Option FieldType) 0 := ⟨kd_X9_init, ini_RX9, by decide +kernel, by decide +kernel⟩
theorem mI_X8_init : zMI yX8_init prog_10_method_1_code 1 (Option.none : Option FieldType) 0 := ⟨kd_X8_init, ini_RX8, by decide +kernel, by decide +kernel⟩
theorem mI_X7_init : zMI yX7_init prog_9_method_1_code 1 (Option.none : Option FieldType) 0 := ⟨kd_X7_init, ini_RX7, by decide +kernel, by decide +kernel⟩
theorem mI_X9_feed : zMI yX9_feed prog_1_method_2_code 6 (Option.some FieldType.int) 5 := ⟨kd_X9_feed, ini_RX9, by decide +kernel, by decide +kernel⟩
theorem mI_X8_put : zMI yX8_put prog_10_method_2_code 3 (Option.none : Option FieldType) 1 := ⟨kd_X8_put, ini_RX8, by decide +kernel, by decide +kernel⟩
theorem mI_X9_fault : zMI yX9_fault prog_1_method_6_code 1 (Option.some FieldType.int) 0 := ⟨kd_X9_fault, ini_RX9, by decide +kernel, by decide +kernel⟩
theorem mI_X9_next : zMI yX9_next prog_1_method_14_code 1 (Option.some FieldType.int) 0 := ⟨kd_X9_next, ini_RX9, by decide +kernel, by decide +kernel⟩
theorem mI_X7_copy : zMI yX7_copy prog_9_method_3_code 2 (Option.none : Option FieldType) 1 := ⟨kd_X7_copy, ini_RX7, by decide +kernel, by decide +kernel⟩
theorem mI_X9_get : zMI yX9_get prog_1_method_59_code 2 (Option.some FieldType.int) 2 := ⟨kd_X9_get, ini_RX9, by decide +kernel, by decide +kernel⟩
theorem mI_X7_isAlive : zMI yX7_isAlive prog_9_method_5_code 2 (Option.some FieldType.boolean) 1 := ⟨kd_X7_isAlive, ini_RX7, by decide +kernel, by decide +kernel⟩
theorem mI_X7_chairOf : zMI yX7_chairOf prog_9_method_8_code 3 (Option.some FieldType.int) 1 := ⟨kd_X7_chairOf, ini_RX7, by decide +kernel, by decide +kernel⟩
theorem mI_X9_set : zMI yX9_set prog_1_method_60_code 3 (Option.none : Option FieldType) 3 := ⟨kd_X9_set, ini_RX9, by decide +kernel, by decide +kernel⟩
theorem mI_X7_vacate : zMI yX7_vacate prog_9_method_10_code 3 (Option.none : Option FieldType) 1 := ⟨kd_X7_vacate, ini_RX7, by decide +kernel, by decide +kernel⟩
theorem mI_X7_onChair : zMI yX7_onChair prog_9_method_6_code 2 (Option.some FieldType.int) 1 := ⟨kd_X7_onChair, ini_RX7, by decide +kernel, by decide +kernel⟩
theorem mI_X7_leave : zMI yX7_leave prog_9_method_11_code 2 (Option.none : Option FieldType) 1 := ⟨kd_X7_leave, ini_RX7, by decide +kernel, by decide +kernel⟩
theorem mI_X7_isWaiting : zMI yX7_isWaiting prog_9_method_4_code 2 (Option.some FieldType.boolean) 1 := ⟨kd_X7_isWaiting, ini_RX7, by decide +kernel, by decide +kernel⟩
theorem mI_X7_last : zMI yX7_last prog_9_method_7_code 1 (Option.some FieldType.int) 0 := ⟨kd_X7_last, ini_RX7, by decide +kernel, by decide +kernel⟩
theorem mI_X7_praiseAside : zMI yX7_praiseAside prog_9_method_13_code 2 (Option.some FieldType.int) 1 := ⟨kd_X7_praiseAside, ini_RX7, by decide +kernel, by decide +kernel⟩
theorem mI_X7_sitDown : zMI yX7_sitDown prog_9_method_9_code 3 (Option.none : Option FieldType) 2 := ⟨kd_X7_sitDown, ini_RX7, by decide +kernel, by decide +kernel⟩
theorem mI_X9_taken : zMI yX9_taken prog_1_method_17_code 3 (Option.some FieldType.int) 1 := ⟨kd_X9_taken, ini_RX9, by decide +kernel, by decide +kernel⟩
theorem mI_X9_breaks : zMI yX9_breaks prog_1_method_23_code 1 (Option.some FieldType.int) 0 := ⟨kd_X9_breaks, ini_RX9, by decide +kernel, by decide +kernel⟩
theorem mI_X9_right : zMI yX9_right prog_1_method_28_code 1 (Option.some FieldType.int) 0 := ⟨kd_X9_right, ini_RX9, by decide +kernel, by decide +kernel⟩
theorem mI_X7_open : zMI yX7_open prog_9_method_2_code 3 (Option.none : Option FieldType) 1 := ⟨kd_X7_open, ini_RX7, by decide +kernel, by decide +kernel⟩
theorem mI_X9_middle : zMI yX9_middle prog_1_method_33_code 1 (Option.some FieldType.int) 0 := ⟨kd_X9_middle, ini_RX9, by decide +kernel, by decide +kernel⟩
theorem mI_X9_lead : zMI yX9_lead prog_1_method_38_code 1 (Option.some FieldType.int) 0 := ⟨kd_X9_lead, ini_RX9, by decide +kernel, by decide +kernel⟩
theorem mI_X9_seams : zMI yX9_seams prog_1_method_42_code 1 (Option.some FieldType.int) 0 := ⟨kd_X9_seams, ini_RX9, by decide +kernel, by decide +kernel⟩
theorem mI_X9_ringed : zMI yX9_ringed prog_1_method_43_code 1 (Option.some FieldType.int) 0 := ⟨kd_X9_ringed, ini_RX9, by decide +kernel, by decide +kernel⟩
theorem mI_X9_kin : zMI yX9_kin prog_1_method_46_code 1 (Option.some FieldType.int) 0 := ⟨kd_X9_kin, ini_RX9, by decide +kernel, by decide +kernel⟩
theorem mI_X9_image : zMI yX9_image prog_1_method_50_code 1 (Option.some FieldType.int) 0 := ⟨kd_X9_image, ini_RX9, by decide +kernel, by decide +kernel⟩
theorem mI_X9_restore : zMI yX9_restore prog_1_method_51_code 1 (Option.some FieldType.int) 0 := ⟨kd_X9_restore, ini_RX9, by decide +kernel, by decide +kernel⟩
theorem mI_X9_status : zMI yX9_status prog_1_method_52_code 2 (Option.some FieldType.int) 1 := ⟨kd_X9_status, ini_RX9, by decide +kernel, by decide +kernel⟩
theorem mI_X9_count : zMI yX9_count prog_1_method_53_code 2 (Option.some FieldType.int) 1 := ⟨kd_X9_count, ini_RX9, by decide +kernel, by decide +kernel⟩
theorem mI_X9_academy : zMI yX9_academy prog_1_method_3_code 2 (Option.some FieldType.int) 1 := ⟨kd_X9_academy, ini_RX9, by decide +kernel, by decide +kernel⟩
theorem mI_X9_openText : zMI yX9_openText prog_1_method_54_code 3 (Option.none : Option FieldType) 2 := ⟨kd_X9_openText, ini_RX9, by decide +kernel, by decide +kernel⟩
theorem mI_X9_within : zMI yX9_within prog_1_method_58_code 3 (Option.some FieldType.boolean) 3 := ⟨kd_X9_within, ini_RX9, by decide +kernel, by decide +kernel⟩
theorem mI_X9_need : zMI yX9_need prog_1_method_57_code 2 (Option.none : Option FieldType) 1 := ⟨kd_X9_need, ini_RX9, by decide +kernel, by decide +kernel⟩
theorem mI_X8_open : zMI yX8_open prog_10_method_3_code 2 (Option.none : Option FieldType) 1 := ⟨kd_X8_open, ini_RX8, by decide +kernel, by decide +kernel⟩
theorem mI_X8_look : zMI yX8_look prog_10_method_5_code 1 (Option.some FieldType.int) 0 := ⟨kd_X8_look, ini_RX8, by decide +kernel, by decide +kernel⟩
theorem mI_X8_lookAt : zMI yX8_lookAt prog_10_method_6_code 1 (Option.some FieldType.int) 0 := ⟨kd_X8_lookAt, ini_RX8, by decide +kernel, by decide +kernel⟩
theorem mI_X8_takesWord : zMI yX8_takesWord prog_10_method_12_code 4 (Option.some FieldType.boolean) 1 := ⟨kd_X8_takesWord, ini_RX8, by decide +kernel, by decide +kernel⟩
theorem mI_X8_byteAt : zMI yX8_byteAt prog_10_method_14_code 2 (Option.some FieldType.int) 1 := ⟨kd_X8_byteAt, ini_RX8, by decide +kernel, by decide +kernel⟩
theorem mI_X8_isLetter : zMI yX8_isLetter prog_10_method_15_code 1 (Option.some FieldType.boolean) 1 := ⟨kd_X8_isLetter, ini_RX8, by decide +kernel, by decide +kernel⟩
theorem mI_X8_fail : zMI yX8_fail prog_10_method_4_code 3 (Option.none : Option FieldType) 2 := ⟨kd_X8_fail, ini_RX8, by decide +kernel, by decide +kernel⟩
theorem mI_X8_number : zMI yX8_number prog_10_method_13_code 6 (Option.some FieldType.int) 2 := ⟨kd_X8_number, ini_RX8, by decide +kernel, by decide +kernel⟩
theorem mI_X8_looksAtDigit : zMI yX8_looksAtDigit prog_10_method_8_code 1 (Option.some FieldType.boolean) 0 := ⟨kd_X8_looksAtDigit, ini_RX8, by decide +kernel, by decide +kernel⟩
theorem mI_X8_isDigit : zMI yX8_isDigit prog_10_method_16_code 1 (Option.some FieldType.boolean) 1 := ⟨kd_X8_isDigit, ini_RX8, by decide +kernel, by decide +kernel⟩
theorem mI_X8_misfit : zMI yX8_misfit prog_10_method_9_code 1 (Option.none : Option FieldType) 0 := ⟨kd_X8_misfit, ini_RX8, by decide +kernel, by decide +kernel⟩
theorem mI_X8_sign : zMI yX8_sign prog_10_method_11_code 2 (Option.none : Option FieldType) 1 := ⟨kd_X8_sign, ini_RX8, by decide +kernel, by decide +kernel⟩
theorem mI_X9_law : zMI yX9_law prog_1_method_4_code 2 (Option.some FieldType.int) 1 := ⟨kd_X9_law, ini_RX9, by decide +kernel, by decide +kernel⟩
theorem mI_X8_takesSign : zMI yX8_takesSign prog_10_method_10_code 2 (Option.some FieldType.boolean) 1 := ⟨kd_X8_takesSign, ini_RX8, by decide +kernel, by decide +kernel⟩
theorem mI_X9_book : zMI yX9_book prog_1_method_5_code 2 (Option.some FieldType.int) 1 := ⟨kd_X9_book, ini_RX9, by decide +kernel, by decide +kernel⟩
theorem mI_X8_looksAtLetter : zMI yX8_looksAtLetter prog_10_method_7_code 1 (Option.some FieldType.boolean) 0 := ⟨kd_X8_looksAtLetter, ini_RX8, by decide +kernel, by decide +kernel⟩
theorem mI_X9_told : zMI yX9_told prog_1_method_7_code 2 (Option.some FieldType.int) 1 := ⟨kd_X9_told, ini_RX9, by decide +kernel, by decide +kernel⟩
theorem mI_X9_man : zMI yX9_man prog_1_method_8_code 3 (Option.some FieldType.int) 2 := ⟨kd_X9_man, ini_RX9, by decide +kernel, by decide +kernel⟩
theorem mI_X9_needMan : zMI yX9_needMan prog_1_method_55_code 2 (Option.none : Option FieldType) 1 := ⟨kd_X9_needMan, ini_RX9, by decide +kernel, by decide +kernel⟩
theorem mI_X9_sides : zMI yX9_sides prog_1_method_9_code 2 (Option.some FieldType.int) 1 := ⟨kd_X9_sides, ini_RX9, by decide +kernel, by decide +kernel⟩
theorem mI_X9_needQuestion : zMI yX9_needQuestion prog_1_method_56_code 2 (Option.none : Option FieldType) 1 := ⟨kd_X9_needQuestion, ini_RX9, by decide +kernel, by decide +kernel⟩
theorem mI_X9_believes : zMI yX9_believes prog_1_method_10_code 3 (Option.some FieldType.int) 2 := ⟨kd_X9_believes, ini_RX9, by decide +kernel, by decide +kernel⟩
theorem mI_X9_chair : zMI yX9_chair prog_1_method_11_code 2 (Option.some FieldType.int) 1 := ⟨kd_X9_chair, ini_RX9, by decide +kernel, by decide +kernel⟩
theorem mI_X9_differs : zMI yX9_differs prog_1_method_12_code 3 (Option.some FieldType.int) 2 := ⟨kd_X9_differs, ini_RX9, by decide +kernel, by decide +kernel⟩
theorem mI_X9_score : zMI yX9_score prog_1_method_13_code 2 (Option.some FieldType.int) 1 := ⟨kd_X9_score, ini_RX9, by decide +kernel, by decide +kernel⟩
theorem mI_X9_years : zMI yX9_years prog_1_method_15_code 3 (Option.some FieldType.int) 1 := ⟨kd_X9_years, ini_RX9, by decide +kernel, by decide +kernel⟩
theorem mI_X9_undo : zMI yX9_undo prog_1_method_16_code 5 (Option.some FieldType.int) 1 := ⟨kd_X9_undo, ini_RX9, by decide +kernel, by decide +kernel⟩
theorem mI_X9_sums : zMI yX9_sums prog_1_method_18_code 2 (Option.some FieldType.int) 1 := ⟨kd_X9_sums, ini_RX9, by decide +kernel, by decide +kernel⟩
theorem mI_X9_die : zMI yX9_die prog_1_method_19_code 3 (Option.some FieldType.int) 1 := ⟨kd_X9_die, ini_RX9, by decide +kernel, by decide +kernel⟩
theorem mI_X9_praise : zMI yX9_praise prog_1_method_20_code 3 (Option.some FieldType.int) 2 := ⟨kd_X9_praise, ini_RX9, by decide +kernel, by decide +kernel⟩
theorem mI_X7_praiseMore : zMI yX7_praiseMore prog_9_method_12_code 4 (Option.none : Option FieldType) 2 := ⟨kd_X7_praiseMore, ini_RX7, by decide +kernel, by decide +kernel⟩
theorem mI_X9_ahead : zMI yX9_ahead prog_1_method_21_code 3 (Option.some FieldType.int) 2 := ⟨kd_X9_ahead, ini_RX9, by decide +kernel, by decide +kernel⟩
theorem mI_X9_when : zMI yX9_when prog_1_method_22_code 2 (Option.some FieldType.int) 1 := ⟨kd_X9_when, ini_RX9, by decide +kernel, by decide +kernel⟩
theorem mI_X9_praises : zMI yX9_praises prog_1_method_24_code 5 (Option.some FieldType.int) 4 := ⟨kd_X9_praises, ini_RX9, by decide +kernel, by decide +kernel⟩
theorem mI_X9_beliefs : zMI yX9_beliefs prog_1_method_25_code 3 (Option.some FieldType.int) 2 := ⟨kd_X9_beliefs, ini_RX9, by decide +kernel, by decide +kernel⟩
theorem mI_X9_sure : zMI yX9_sure prog_1_method_26_code 3 (Option.some FieldType.int) 2 := ⟨kd_X9_sure, ini_RX9, by decide +kernel, by decide +kernel⟩
theorem mI_X9_dead : zMI yX9_dead prog_1_method_27_code 2 (Option.some FieldType.int) 1 := ⟨kd_X9_dead, ini_RX9, by decide +kernel, by decide +kernel⟩
theorem mI_X9_enemy : zMI yX9_enemy prog_1_method_29_code 2 (Option.some FieldType.int) 1 := ⟨kd_X9_enemy, ini_RX9, by decide +kernel, by decide +kernel⟩
theorem mI_X9_ring : zMI yX9_ring prog_1_method_30_code 3 (Option.some FieldType.int) 2 := ⟨kd_X9_ring, ini_RX9, by decide +kernel, by decide +kernel⟩
theorem mI_X9_vote : zMI yX9_vote prog_1_method_31_code 4 (Option.some FieldType.int) 3 := ⟨kd_X9_vote, ini_RX9, by decide +kernel, by decide +kernel⟩
theorem mI_X9_skip : zMI yX9_skip prog_1_method_32_code 2 (Option.some FieldType.int) 1 := ⟨kd_X9_skip, ini_RX9, by decide +kernel, by decide +kernel⟩
theorem mI_X9_flip : zMI yX9_flip prog_1_method_34_code 2 (Option.some FieldType.int) 1 := ⟨kd_X9_flip, ini_RX9, by decide +kernel, by decide +kernel⟩
theorem mI_X9_patrons : zMI yX9_patrons prog_1_method_35_code 5 (Option.some FieldType.int) 4 := ⟨kd_X9_patrons, ini_RX9, by decide +kernel, by decide +kernel⟩
theorem mI_X9_allies : zMI yX9_allies prog_1_method_36_code 2 (Option.some FieldType.int) 1 := ⟨kd_X9_allies, ini_RX9, by decide +kernel, by decide +kernel⟩
theorem mI_X9_rank : zMI yX9_rank prog_1_method_37_code 2 (Option.some FieldType.int) 1 := ⟨kd_X9_rank, ini_RX9, by decide +kernel, by decide +kernel⟩
theorem mI_X9_wants : zMI yX9_wants prog_1_method_39_code 2 (Option.some FieldType.int) 1 := ⟨kd_X9_wants, ini_RX9, by decide +kernel, by decide +kernel⟩
theorem mI_X9_stays : zMI yX9_stays prog_1_method_40_code 2 (Option.some FieldType.int) 1 := ⟨kd_X9_stays, ini_RX9, by decide +kernel, by decide +kernel⟩
theorem mI_X9_doomed : zMI yX9_doomed prog_1_method_41_code 2 (Option.some FieldType.int) 1 := ⟨kd_X9_doomed, ini_RX9, by decide +kernel, by decide +kernel⟩
theorem mI_X9_pair : zMI yX9_pair prog_1_method_44_code 2 (Option.some FieldType.int) 1 := ⟨kd_X9_pair, ini_RX9, by decide +kernel, by decide +kernel⟩
theorem mI_X9_quorum : zMI yX9_quorum prog_1_method_45_code 2 (Option.some FieldType.int) 1 := ⟨kd_X9_quorum, ini_RX9, by decide +kernel, by decide +kernel⟩
theorem mI_X9_heir : zMI yX9_heir prog_1_method_47_code 2 (Option.some FieldType.int) 1 := ⟨kd_X9_heir, ini_RX9, by decide +kernel, by decide +kernel⟩
theorem mI_X9_fates : zMI yX9_fates prog_1_method_48_code 5 (Option.some FieldType.int) 4 := ⟨kd_X9_fates, ini_RX9, by decide +kernel, by decide +kernel⟩
theorem mI_X9_span : zMI yX9_span prog_1_method_49_code 7 (Option.some FieldType.int) 6 := ⟨kd_X9_span, ini_RX9, by decide +kernel, by decide +kernel⟩
theorem uw_0 : ∀ w ∈ u_ws RX0 TX0 16, w ∈ zTbl := by decide +kernel
theorem zg_0_0 {x : zCx} {G : zG} {cc : ByteArray} {nL : Nat} {own : String} {fr lo : Nat} {Q : State → Prop} {cs sl pc : Nat} {ls : List (Nat × Value)} {st : List Value} {v : zV} (F : zF x G cc nL own fr lo) {i idx : Nat} (hT : zty i 1 0) (hlink : Cond.fieldLink own idx "ContraryChairs$Academy" "questions" "I" ∈ zTbl) (hd : decode cc pc = .ok (.getfield idx, 3)) (kk : zJ x G nL Q cs sl (pc + 3) ls (.int (v i 0) :: st) v) : zJ x G nL Q cs sl pc ls (zr G i :: st) v := z_getI F (c := 0) (C := RX0) (T := TX0) (N := 16) rfl uw_0 0 (by decide) (by decide +kernel) (by decide +kernel) hT hlink hd kk
theorem zp_0_0 {x : zCx} {G : zG} {cc : ByteArray} {nL : Nat} {own : String} {fr lo : Nat} {Q : State → Prop} {cs sl pc : Nat} {ls : List (Nat × Value)} {st : List Value} {v : zV} (F : zF x G cc nL own fr lo) {i idx : Nat} {y : Int32} (hT : zty i 1 0) (hlink : Cond.fieldLink own idx "ContraryChairs$Academy" "questions" "I" ∈ zTbl) (hd : decode cc pc = .ok (.putfield idx, 3)) (kk : zJ x G nL Q cs sl (pc + 3) ls st (zup v i 0 y)) : zJ x G nL Q cs sl pc ls (.int y :: zr G i :: st) v := z_putI F (c := 0) (C := RX0) (T := TX0) (N := 16) (ty := .int) tyX0 tyX0_ok nmX0 rfl uw_0 0 (by decide) (by decide +kernel) (by decide +kernel) rfl (by decide +kernel) rfl rfl hT hlink hd kk
theorem zg_0_1 {x : zCx} {G : zG} {cc : ByteArray} {nL : Nat} {own : String} {fr lo : Nat} {Q : State → Prop} {cs sl pc : Nat} {ls : List (Nat × Value)} {st : List Value} {v : zV} (F : zF x G cc nL own fr lo) {i idx : Nat} (hT : zty i 1 0) (hlink : Cond.fieldLink own idx "ContraryChairs$Academy" "men" "I" ∈ zTbl) (hd : decode cc pc = .ok (.getfield idx, 3)) (kk : zJ x G nL Q cs sl (pc + 3) ls (.int (v i 1) :: st) v) : zJ x G nL Q cs sl pc ls (zr G i :: st) v := z_getI F (c := 0) (C := RX0) (T := TX0) (N := 16) rfl uw_0 1 (by decide) (by decide +kernel) (by decide +kernel) hT hlink hd kk
theorem zp_0_1 {x : zCx} {G : zG} {cc : ByteArray} {nL : Nat} {own : String} {fr lo : Nat} {Q : State → Prop} {cs sl pc : Nat} {ls : List (Nat × Value)} {st : List Value} {v : zV} (F : zF x G cc nL own fr lo) {i idx : Nat} {y : Int32} (hT : zty i 1 0) (hlink : Cond.fieldLink own idx "ContraryChairs$Academy" "men" "I" ∈ zTbl) (hd : decode cc pc = .ok (.putfield idx, 3)) (kk : zJ x G nL Q cs sl (pc + 3) ls st (zup v i 1 y)) : zJ x G nL Q cs sl pc ls (.int y :: zr G i :: st) v := z_putI F (c := 0) (C := RX0) (T := TX0) (N := 16) (ty := .int) tyX0 tyX0_ok nmX0 rfl uw_0 1 (by decide) (by decide +kernel) (by decide +kernel) rfl (by decide +kernel) rfl rfl hT hlink hd kk
theorem zg_0_2 {x : zCx} {G : zG} {cc : ByteArray} {nL : Nat} {own : String} {fr lo : Nat} {Q : State → Prop} {cs sl pc : Nat} {ls : List (Nat × Value)} {st : List Value} {v : zV} (F : zF x G cc nL own fr lo) {i idx : Nat} (hT : zty i 1 0) (hlink : Cond.fieldLink own idx "ContraryChairs$Academy" "chairs" "I" ∈ zTbl) (hd : decode cc pc = .ok (.getfield idx, 3)) (kk : zJ x G nL Q cs sl (pc + 3) ls (.int (v i 2) :: st) v) : zJ x G nL Q cs sl pc ls (zr G i :: st) v := z_getI F (c := 0) (C := RX0) (T := TX0) (N := 16) rfl uw_0 2 (by decide) (by decide +kernel) (by decide +kernel) hT hlink hd kk
theorem zp_0_2 {x : zCx} {G : zG} {cc : ByteArray} {nL : Nat} {own : String} {fr lo : Nat} {Q : State → Prop} {cs sl pc : Nat} {ls : List (Nat × Value)} {st : List Value} {v : zV} (F : zF x G cc nL own fr lo) {i idx : Nat} {y : Int32} (hT : zty i 1 0) (hlink : Cond.fieldLink own idx "ContraryChairs$Academy" "chairs" "I" ∈ zTbl) (hd : decode cc pc = .ok (.putfield idx, 3)) (kk : zJ x G nL Q cs sl (pc + 3) ls st (zup v i 2 y)) : zJ x G nL Q cs sl pc ls (.int y :: zr G i :: st) v := z_putI F (c := 0) (C := RX0) (T := TX0) (N := 16) (ty := .int) tyX0 tyX0_ok nmX0 rfl uw_0 2 (by decide) (by decide +kernel) (by decide +kernel) rfl (by decide +kernel) rfl rfl hT hlink hd kk
theorem zg_0_3 {x : zCx} {G : zG} {cc : ByteArray} {nL : Nat} {own : String} {fr lo : Nat} {Q : State → Prop} {cs sl pc : Nat} {ls : List (Nat × Value)} {st : List Value} {v : zV} (F : zF x G cc nL own fr lo) {i idx : Nat} (hT : zty i 1 0) (hlink : Cond.fieldLink own idx "ContraryChairs$Academy" "seats" "I" ∈ zTbl) (hd : decode cc pc = .ok (.getfield idx, 3)) (kk : zJ x G nL Q cs sl (pc + 3) ls (.int (v i 3) :: st) v) : zJ x G nL Q cs sl pc ls (zr G i :: st) v := z_getI F (c := 0) (C := RX0) (T := TX0) (N := 16) rfl uw_0 3 (by decide) (by decide +kernel) (by decide +kernel) hT hlink hd kk
theorem zp_0_3 {x : zCx} {G : zG} {cc : ByteArray} {nL : Nat} {own : String} {fr lo : Nat} {Q : State → Prop} {cs sl pc : Nat} {ls : List (Nat × Value)} {st : List Value} {v : zV} (F : zF x G cc nL own fr lo) {i idx : Nat} {y : Int32} (hT : zty i 1 0) (hlink : Cond.fieldLink own idx "ContraryChairs$Academy" "seats" "I" ∈ zTbl) (hd : decode cc pc = .ok (.putfield idx, 3)) (kk : zJ x G nL Q cs sl (pc + 3) ls st (zup v i 3 y)) : zJ x G nL Q cs sl pc ls (.int y :: zr G i :: st) v := z_putI F (c := 0) (C := RX0) (T := TX0) (N := 16) (ty := .int) tyX0 tyX0_ok nmX0 rfl uw_0 3 (by decide) (by decide +kernel) (by decide +kernel) rfl (by decide +kernel) rfl rfl hT hlink hd kk
theorem zg_0_4 {x : zCx} {G : zG} {cc : ByteArray} {nL : Nat} {own : String} {fr lo : Nat} {Q : State → Prop} {cs sl pc : Nat} {ls : List (Nat × Value)} {st : List Value} {v : zV} (F : zF x G cc nL own fr lo) {i idx : Nat} (hT : zty i 1 0) (hlink : Cond.fieldLink own idx "ContraryChairs$Academy" "deaths" "I" ∈ zTbl) (hd : decode cc pc = .ok (.getfield idx, 3)) (kk : zJ x G nL Q cs sl (pc + 3) ls (.int (v i 4) :: st) v) : zJ x G nL Q cs sl pc ls (zr G i :: st) v := z_getI F (c := 0) (C := RX0) (T := TX0) (N := 16) rfl uw_0 4 (by decide) (by decide +kernel) (by decide +kernel) hT hlink hd kk
theorem zp_0_4 {x : zCx} {G : zG} {cc : ByteArray} {nL : Nat} {own : String} {fr lo : Nat} {Q : State → Prop} {cs sl pc : Nat} {ls : List (Nat × Value)} {st : List Value} {v : zV} (F : zF x G cc nL own fr lo) {i idx : Nat} {y : Int32} (hT : zty i 1 0) (hlink : Cond.fieldLink own idx "ContraryChairs$Academy" "deaths" "I" ∈ zTbl) (hd : decode cc pc = .ok (.putfield idx, 3)) (kk : zJ x G nL Q cs sl (pc + 3) ls st (zup v i 4 y)) : zJ x G nL Q cs sl pc ls (.int y :: zr G i :: st) v := z_putI F (c := 0) (C := RX0) (T := TX0) (N := 16) (ty := .int) tyX0 tyX0_ok nmX0 rfl uw_0 4 (by decide) (by decide +kernel) (by decide +kernel) rfl (by decide +kernel) rfl rfl hT hlink hd kk
theorem zg_0_5 {x : zCx} {G : zG} {cc : ByteArray} {nL : Nat} {own : String} {fr lo : Nat} {Q : State → Prop} {cs sl pc : Nat} {ls : List (Nat × Value)} {st : List Value} {v : zV} (F : zF x G cc nL own fr lo) {i idx : Nat} (hT : zty i 1 0) (hlink : Cond.fieldLink own idx "ContraryChairs$Academy" "praises" "I" ∈ zTbl) (hd : decode cc pc = .ok (.getfield idx, 3)) (kk : zJ x G nL Q cs sl (pc + 3) ls (.int (v i 5) :: st) v) : zJ x G nL Q cs sl pc ls (zr G i :: st) v := z_getI F (c := 0) (C := RX0) (T := TX0) (N := 16) rfl uw_0 5 (by decide) (by decide +kernel) (by decide +kernel) hT hlink hd kk
theorem zp_0_5 {x : zCx} {G : zG} {cc : ByteArray} {nL : Nat} {own : String} {fr lo : Nat} {Q : State → Prop} {cs sl pc : Nat} {ls : List (Nat × Value)} {st : List Value} {v : zV} (F : zF x G cc nL own fr lo) {i idx : Nat} {y : Int32} (hT : zty i 1 0) (hlink : Cond.fieldLink own idx "ContraryChairs$Academy" "praises" "I" ∈ zTbl) (hd : decode cc pc = .ok (.putfield idx, 3)) (kk : zJ x G nL Q cs sl (pc + 3) ls st (zup v i 5 y)) : zJ x G nL Q cs sl pc ls (.int y :: zr G i :: st) v := z_putI F (c := 0) (C := RX0) (T := TX0) (N := 16) (ty := .int) tyX0 tyX0_ok nmX0 rfl uw_0 5 (by decide) (by decide +kernel) (by decide +kernel) rfl (by decide +kernel) rfl rfl hT hlink hd kk
theorem zg_0_6 {x : zCx} {G : zG} {cc : ByteArray} {nL : Nat} {own : String} {fr lo : Nat} {Q : State → Prop} {cs sl pc : Nat} {ls : List (Nat × Value)} {st : List Value} {v : zV} (F : zF x G cc nL own fr lo) {i idx : Nat} (hT : zty i 1 0) (hlink : Cond.fieldLink own idx "ContraryChairs$Academy" "chairsTold" "Z" ∈ zTbl) (hd : decode cc pc = .ok (.getfield idx, 3)) (kk : zJ x G nL Q cs sl (pc + 3) ls (.int (v i 6) :: st) v) : zJ x G nL Q cs sl pc ls (zr G i :: st) v := z_getI F (c := 0) (C := RX0) (T := TX0) (N := 16) rfl uw_0 6 (by decide) (by decide +kernel) (by decide +kernel) hT hlink hd kk
theorem zp_0_6 {x : zCx} {G : zG} {cc : ByteArray} {nL : Nat} {own : String} {fr lo : Nat} {Q : State → Prop} {cs sl pc : Nat} {ls : List (Nat × Value)} {st : List Value} {v : zV} (F : zF x G cc nL own fr lo) {i idx : Nat} {y : Int32} (hy : narrow .boolean (.int y) = .int y) (hf : fits .boolean (.int y) = true) (hT : zty i 1 0) (hlink : Cond.fieldLink own idx "ContraryChairs$Academy" "chairsTold" "Z" ∈ zTbl) (hd : decode cc pc = .ok (.putfield idx, 3)) (kk : zJ x G nL Q cs sl (pc + 3) ls st (zup v i 6 y)) : zJ x G nL Q cs sl pc ls (.int y :: zr G i :: st) v := z_putI F (c := 0) (C := RX0) (T := TX0) (N := 16) (ty := .boolean) tyX0 tyX0_ok nmX0 rfl uw_0 6 (by decide) (by decide +kernel) (by decide +kernel) rfl (by decide +kernel) hy hf hT hlink hd kk
theorem zg_0_7 {x : zCx} {G : zG} {cc : ByteArray} {nL : Nat} {own : String} {fr lo : Nat} {Q : State → Prop} {cs sl pc : Nat} {ls : List (Nat × Value)} {st : List Value} {v : zV} (F : zF x G cc nL own fr lo) {i idx : Nat} (hT : zty i 1 0) (hlink : Cond.fieldLink own idx "ContraryChairs$Academy" "sides" "[I" ∈ zTbl) (hd : decode cc pc = .ok (.getfield idx, 3)) (kk : zJ x G nL Q cs sl (pc + 3) ls (zr G (zrf i 7) :: st) v) : zJ x G nL Q cs sl pc ls (zr G i :: st) v := z_getR F (c := 0) (C := RX0) (T := TX0) (N := 16) rfl uw_0 7 (by decide) (by decide +kernel) (by decide +kernel) hT hlink hd kk
theorem tc_0_7 : zchk 0 7 2 0 = true := by decide +kernel
theorem zg_0_8 {x : zCx} {G : zG} {cc : ByteArray} {nL : Nat} {own : String} {fr lo : Nat} {Q : State → Prop} {cs sl pc : Nat} {ls : List (Nat × Value)} {st : List Value} {v : zV} (F : zF x G cc nL own fr lo) {i idx : Nat} (hT : zty i 1 0) (hlink : Cond.fieldLink own idx "ContraryChairs$Academy" "ages" "[I" ∈ zTbl) (hd : decode cc pc = .ok (.getfield idx, 3)) (kk : zJ x G nL Q cs sl (pc + 3) ls (zr G (zrf i 8) :: st) v) : zJ x G nL Q cs sl pc ls (zr G i :: st) v := z_getR F (c := 0) (C := RX0) (T := TX0) (N := 16) rfl uw_0 8 (by decide) (by decide +kernel) (by decide +kernel) hT hlink hd kk
theorem tc_0_8 : zchk 0 8 2 0 = true := by decide +kernel
theorem zg_0_9 {x : zCx} {G : zG} {cc : ByteArray} {nL : Nat} {own : String} {fr lo : Nat} {Q : State → Prop} {cs sl pc : Nat} {ls : List (Nat × Value)} {st : List Value} {v : zV} (F : zF x G cc nL own fr lo) {i idx : Nat} (hT : zty i 1 0) (hlink : Cond.fieldLink own idx "ContraryChairs$Academy" "codes" "[I" ∈ zTbl) (hd : decode cc pc = .ok (.getfield idx, 3)) (kk : zJ x G nL Q cs sl (pc + 3) ls (zr G (zrf i 9) :: st) v) : zJ x G nL Q cs sl pc ls (zr G i :: st) v := z_getR F (c := 0) (C := RX0) (T := TX0) (N := 16) rfl uw_0 9 (by decide) (by decide +kernel) (by decide +kernel) hT hlink hd kk
theorem tc_0_9 : zchk 0 9 2 0 = true := by decide +kernel
theorem zg_0_10 {x : zCx} {G : zG} {cc : ByteArray} {nL : Nat} {own : String} {fr lo : Nat} {Q : State → Prop} {cs sl pc : Nat} {ls : List (Nat × Value)} {st : List Value} {v : zV} (F : zF x G cc nL own fr lo) {i idx : Nat} (hT : zty i 1 0) (hlink : Cond.fieldLink own idx "ContraryChairs$Academy" "seated" "[I" ∈ zTbl) (hd : decode cc pc = .ok (.getfield idx, 3)) (kk : zJ x G nL Q cs sl (pc + 3) ls (zr G (zrf i 10) :: st) v) : zJ x G nL Q cs sl pc ls (zr G i :: st) v := z_getR F (c := 0) (C := RX0) (T := TX0) (N := 16) rfl uw_0 10 (by decide) (by decide +kernel) (by decide +kernel) hT hlink hd kk
theorem tc_0_10 : zchk 0 10 2 0 = true := by decide +kernel
theorem zg_0_11 {x : zCx} {G : zG} {cc : ByteArray} {nL : Nat} {own : String} {fr lo : Nat} {Q : State → Prop} {cs sl pc : Nat} {ls : List (Nat × Value)} {st : List Value} {v : zV} (F : zF x G cc nL own fr lo) {i idx : Nat} (hT : zty i 1 0) (hlink : Cond.fieldLink own idx "ContraryChairs$Academy" "deathYears" "[I" ∈ zTbl) (hd : decode cc pc = .ok (.getfield idx, 3)) (kk : zJ x G nL Q cs sl (pc + 3) ls (zr G (zrf i 11) :: st) v) : zJ x G nL Q cs sl pc ls (zr G i :: st) v := z_getR F (c := 0) (C := RX0) (T := TX0) (N := 16) rfl uw_0 11 (by decide) (by decide +kernel) (by decide +kernel) hT hlink hd kk
theorem tc_0_11 : zchk 0 11 2 0 = true := by decide +kernel
theorem zg_0_12 {x : zCx} {G : zG} {cc : ByteArray} {nL : Nat} {own : String} {fr lo : Nat} {Q : State → Prop} {cs sl pc : Nat} {ls : List (Nat × Value)} {st : List Value} {v : zV} (F : zF x G cc nL own fr lo) {i idx : Nat} (hT : zty i 1 0) (hlink : Cond.fieldLink own idx "ContraryChairs$Academy" "deathMen" "[I" ∈ zTbl) (hd : decode cc pc = .ok (.getfield idx, 3)) (kk : zJ x G nL Q cs sl (pc + 3) ls (zr G (zrf i 12) :: st) v) : zJ x G nL Q cs sl pc ls (zr G i :: st) v := z_getR F (c := 0) (C := RX0) (T := TX0) (N := 16) rfl uw_0 12 (by decide) (by decide +kernel) (by decide +kernel) hT hlink hd kk
theorem tc_0_12 : zchk 0 12 2 0 = true := by decide +kernel
theorem zg_0_13 {x : zCx} {G : zG} {cc : ByteArray} {nL : Nat} {own : String} {fr lo : Nat} {Q : State → Prop} {cs sl pc : Nat} {ls : List (Nat × Value)} {st : List Value} {v : zV} (F : zF x G cc nL own fr lo) {i idx : Nat} (hT : zty i 1 0) (hlink : Cond.fieldLink own idx "ContraryChairs$Academy" "praiseYears" "[I" ∈ zTbl) (hd : decode cc pc = .ok (.getfield idx, 3)) (kk : zJ x G nL Q cs sl (pc + 3) ls (zr G (zrf i 13) :: st) v) : zJ x G nL Q cs sl pc ls (zr G i :: st) v := z_getR F (c := 0) (C := RX0) (T := TX0) (N := 16) rfl uw_0 13 (by decide) (by decide +kernel) (by decide +kernel) hT hlink hd kk
theorem tc_0_13 : zchk 0 13 2 0 = true := by decide +kernel
theorem zg_0_14 {x : zCx} {G : zG} {cc : ByteArray} {nL : Nat} {own : String} {fr lo : Nat} {Q : State → Prop} {cs sl pc : Nat} {ls : List (Nat × Value)} {st : List Value} {v : zV} (F : zF x G cc nL own fr lo) {i idx : Nat} (hT : zty i 1 0) (hlink : Cond.fieldLink own idx "ContraryChairs$Academy" "praiseMen" "[I" ∈ zTbl) (hd : decode cc pc = .ok (.getfield idx, 3)) (kk : zJ x G nL Q cs sl (pc + 3) ls (zr G (zrf i 14) :: st) v) : zJ x G nL Q cs sl pc ls (zr G i :: st) v := z_getR F (c := 0) (C := RX0) (T := TX0) (N := 16) rfl uw_0 14 (by decide) (by decide +kernel) (by decide +kernel) hT hlink hd kk
theorem tc_0_14 : zchk 0 14 2 0 = true := by decide +kernel
theorem zg_0_15 {x : zCx} {G : zG} {cc : ByteArray} {nL : Nat} {own : String} {fr lo : Nat} {Q : State → Prop} {cs sl pc : Nat} {ls : List (Nat × Value)} {st : List Value} {v : zV} (F : zF x G cc nL own fr lo) {i idx : Nat} (hT : zty i 1 0) (hlink : Cond.fieldLink own idx "ContraryChairs$Academy" "praiseBy" "[I" ∈ zTbl) (hd : decode cc pc = .ok (.getfield idx, 3)) (kk : zJ x G nL Q cs sl (pc + 3) ls (zr G (zrf i 15) :: st) v) : zJ x G nL Q cs sl pc ls (zr G i :: st) v := z_getR F (c := 0) (C := RX0) (T := TX0) (N := 16) rfl uw_0 15 (by decide) (by decide +kernel) (by decide +kernel) hT hlink hd kk
theorem tc_0_15 : zchk 0 15 2 0 = true := by decide +kernel
theorem uw_1 : ∀ w ∈ u_ws RX1 TX1 3, w ∈ zTbl := by decide +kernel
theorem zg_1_0 {x : zCx} {G : zG} {cc : ByteArray} {nL : Nat} {own : String} {fr lo : Nat} {Q : State → Prop} {cs sl pc : Nat} {ls : List (Nat × Value)} {st : List Value} {v : zV} (F : zF x G cc nL own fr lo) {i idx : Nat} (hT : zty i 1 1) (hlink : Cond.fieldLink own idx "ContraryChairs$Book" "lines" "I" ∈ zTbl) (hd : decode cc pc = .ok (.getfield idx, 3)) (kk : zJ x G nL Q cs sl (pc + 3) ls (.int (v i 0) :: st) v) : zJ x G nL Q cs sl pc ls (zr G i :: st) v := z_getI F (c := 1) (C := RX1) (T := TX1) (N := 3) rfl uw_1 0 (by decide) (by decide +kernel) (by decide +kernel) hT hlink hd kk
theorem zp_1_0 {x : zCx} {G : zG} {cc : ByteArray} {nL : Nat} {own : String} {fr lo : Nat} {Q : State → Prop} {cs sl pc : Nat} {ls : List (Nat × Value)} {st : List Value} {v : zV} (F : zF x G cc nL own fr lo) {i idx : Nat} {y : Int32} (hT : zty i 1 1) (hlink : Cond.fieldLink own idx "ContraryChairs$Book" "lines" "I" ∈ zTbl) (hd : decode cc pc = .ok (.putfield idx, 3)) (kk : zJ x G nL Q cs sl (pc + 3) ls st (zup v i 0 y)) : zJ x G nL Q cs sl pc ls (.int y :: zr G i :: st) v := z_putI F (c := 1) (C := RX1) (T := TX1) (N := 3) (ty := .int) tyX1 tyX1_ok nmX1 rfl uw_1 0 (by decide) (by decide +kernel) (by decide +kernel) rfl (by decide +kernel) rfl rfl hT hlink hd kk
theorem zg_1_1 {x : zCx} {G : zG} {cc : ByteArray} {nL : Nat} {own : String} {fr lo : Nat} {Q : State → Prop} {cs sl pc : Nat} {ls : List (Nat × Value)} {st : List Value} {v : zV} (F : zF x G cc nL own fr lo) {i idx : Nat} (hT : zty i 1 1) (hlink : Cond.fieldLink own idx "ContraryChairs$Book" "years" "[I" ∈ zTbl) (hd : decode cc pc = .ok (.getfield idx, 3)) (kk : zJ x G nL Q cs sl (pc + 3) ls (zr G (zrf i 1) :: st) v) : zJ x G nL Q cs sl pc ls (zr G i :: st) v := z_getR F (c := 1) (C := RX1) (T := TX1) (N := 3) rfl uw_1 1 (by decide) (by decide +kernel) (by decide +kernel) hT hlink hd kk
theorem tc_1_1 : zchk 1 1 2 0 = true := by decide +kernel
theorem zg_1_2 {x : zCx} {G : zG} {cc : ByteArray} {nL : Nat} {own : String} {fr lo : Nat} {Q : State → Prop} {cs sl pc : Nat} {ls : List (Nat × Value)} {st : List Value} {v : zV} (F : zF x G cc nL own fr lo) {i idx : Nat} (hT : zty i 1 1) (hlink : Cond.fieldLink own idx "ContraryChairs$Book" "men" "[I" ∈ zTbl) (hd : decode cc pc = .ok (.getfield idx, 3)) (kk : zJ x G nL Q cs sl (pc + 3) ls (zr G (zrf i 2) :: st) v) : zJ x G nL Q cs sl pc ls (zr G i :: st) v := z_getR F (c := 1) (C := RX1) (T := TX1) (N := 3) rfl uw_1 2 (by decide) (by decide +kernel) (by decide +kernel) hT hlink hd kk
theorem tc_1_2 : zchk 1 2 2 0 = true := by decide +kernel
theorem uw_2 : ∀ w ∈ u_ws RX2 TX2 3, w ∈ zTbl := by decide +kernel
theorem zg_2_0 {x : zCx} {G : zG} {cc : ByteArray} {nL : Nat} {own : String} {fr lo : Nat} {Q : State → Prop} {cs sl pc : Nat} {ls : List (Nat × Value)} {st : List Value} {v : zV} (F : zF x G cc nL own fr lo) {i idx : Nat} (hT : zty i 1 2) (hlink : Cond.fieldLink own idx "ContraryChairs$Calendar" "academy" "LContraryChairs$Academy;" ∈ zTbl) (hd : decode cc pc = .ok (.getfield idx, 3)) (kk : zJ x G nL Q cs sl (pc + 3) ls (zr G (zrf i 0) :: st) v) : zJ x G nL Q cs sl pc ls (zr G i :: st) v := z_getR F (c := 2) (C := RX2) (T := TX2) (N := 3) rfl uw_2 0 (by decide) (by decide +kernel) (by decide +kernel) hT hlink hd kk
theorem tc_2_0 : zchk 2 0 1 0 = true := by decide +kernel
theorem zg_2_1 {x : zCx} {G : zG} {cc : ByteArray} {nL : Nat} {own : String} {fr lo : Nat} {Q : State → Prop} {cs sl pc : Nat} {ls : List (Nat × Value)} {st : List Value} {v : zV} (F : zF x G cc nL own fr lo) {i idx : Nat} (hT : zty i 1 2) (hlink : Cond.fieldLink own idx "ContraryChairs$Calendar" "law" "LContraryChairs$Law;" ∈ zTbl) (hd : decode cc pc = .ok (.getfield idx, 3)) (kk : zJ x G nL Q cs sl (pc + 3) ls (zr G (zrf i 1) :: st) v) : zJ x G nL Q cs sl pc ls (zr G i :: st) v := z_getR F (c := 2) (C := RX2) (T := TX2) (N := 3) rfl uw_2 1 (by decide) (by decide +kernel) (by decide +kernel) hT hlink hd kk
theorem tc_2_1 : zchk 2 1 1 5 = true := by decide +kernel
theorem zg_2_2 {x : zCx} {G : zG} {cc : ByteArray} {nL : Nat} {own : String} {fr lo : Nat} {Q : State → Prop} {cs sl pc : Nat} {ls : List (Nat × Value)} {st : List Value} {v : zV} (F : zF x G cc nL own fr lo) {i idx : Nat} (hT : zty i 1 2) (hlink : Cond.fieldLink own idx "ContraryChairs$Calendar" "scores" "[I" ∈ zTbl) (hd : decode cc pc = .ok (.getfield idx, 3)) (kk : zJ x G nL Q cs sl (pc + 3) ls (zr G (zrf i 2) :: st) v) : zJ x G nL Q cs sl pc ls (zr G i :: st) v := z_getR F (c := 2) (C := RX2) (T := TX2) (N := 3) rfl uw_2 2 (by decide) (by decide +kernel) (by decide +kernel) hT hlink hd kk
theorem tc_2_2 : zchk 2 2 2 0 = true := by decide +kernel
theorem uw_3 : ∀ w ∈ u_ws RX3 TX3 3, w ∈ zTbl := by decide +kernel
theorem zg_3_0 {x : zCx} {G : zG} {cc : ByteArray} {nL : Nat} {own : String} {fr lo : Nat} {Q : State → Prop} {cs sl pc : Nat} {ls : List (Nat × Value)} {st : List Value} {v : zV} (F : zF x G cc nL own fr lo) {i idx : Nat} (hT : zty i 1 3) (hlink : Cond.fieldLink own idx "ContraryChairs$Company" "academy" "LContraryChairs$Academy;" ∈ zTbl) (hd : decode cc pc = .ok (.getfield idx, 3)) (kk : zJ x G nL Q cs sl (pc + 3) ls (zr G (zrf i 0) :: st) v) : zJ x G nL Q cs sl pc ls (zr G i :: st) v := z_getR F (c := 3) (C := RX3) (T := TX3) (N := 3) rfl uw_3 0 (by decide) (by decide +kernel) (by decide +kernel) hT hlink hd kk
theorem tc_3_0 : zchk 3 0 1 0 = true := by decide +kernel
theorem zg_3_1 {x : zCx} {G : zG} {cc : ByteArray} {nL : Nat} {own : String} {fr lo : Nat} {Q : State → Prop} {cs sl pc : Nat} {ls : List (Nat × Value)} {st : List Value} {v : zV} (F : zF x G cc nL own fr lo) {i idx : Nat} (hT : zty i 1 3) (hlink : Cond.fieldLink own idx "ContraryChairs$Company" "now" "LContraryChairs$Row;" ∈ zTbl) (hd : decode cc pc = .ok (.getfield idx, 3)) (kk : zJ x G nL Q cs sl (pc + 3) ls (zr G (zrf i 1) :: st) v) : zJ x G nL Q cs sl pc ls (zr G i :: st) v := z_getR F (c := 3) (C := RX3) (T := TX3) (N := 3) rfl uw_3 1 (by decide) (by decide +kernel) (by decide +kernel) hT hlink hd kk
theorem tc_3_1 : zchk 3 1 1 7 = true := by decide +kernel
theorem zg_3_2 {x : zCx} {G : zG} {cc : ByteArray} {nL : Nat} {own : String} {fr lo : Nat} {Q : State → Prop} {cs sl pc : Nat} {ls : List (Nat × Value)} {st : List Value} {v : zV} (F : zF x G cc nL own fr lo) {i idx : Nat} (hT : zty i 1 3) (hlink : Cond.fieldLink own idx "ContraryChairs$Company" "tally" "[I" ∈ zTbl) (hd : decode cc pc = .ok (.getfield idx, 3)) (kk : zJ x G nL Q cs sl (pc + 3) ls (zr G (zrf i 2) :: st) v) : zJ x G nL Q cs sl pc ls (zr G i :: st) v := z_getR F (c := 3) (C := RX3) (T := TX3) (N := 3) rfl uw_3 2 (by decide) (by decide +kernel) (by decide +kernel) hT hlink hd kk
theorem tc_3_2 : zchk 3 2 2 0 = true := by decide +kernel
theorem uw_4 : ∀ w ∈ u_ws RX4 TX4 13, w ∈ zTbl := by decide +kernel
theorem zg_4_0 {x : zCx} {G : zG} {cc : ByteArray} {nL : Nat} {own : String} {fr lo : Nat} {Q : State → Prop} {cs sl pc : Nat} {ls : List (Nat × Value)} {st : List Value} {v : zV} (F : zF x G cc nL own fr lo) {i idx : Nat} (hT : zty i 1 4) (hlink : Cond.fieldLink own idx "ContraryChairs$Foresight" "academy" "LContraryChairs$Academy;" ∈ zTbl) (hd : decode cc pc = .ok (.getfield idx, 3)) (kk : zJ x G nL Q cs sl (pc + 3) ls (zr G (zrf i 0) :: st) v) : zJ x G nL Q cs sl pc ls (zr G i :: st) v := z_getR F (c := 4) (C := RX4) (T := TX4) (N := 13) rfl uw_4 0 (by decide) (by decide +kernel) (by decide +kernel) hT hlink hd kk
theorem tc_4_0 : zchk 4 0 1 0 = true := by decide +kernel
theorem zg_4_1 {x : zCx} {G : zG} {cc : ByteArray} {nL : Nat} {own : String} {fr lo : Nat} {Q : State → Prop} {cs sl pc : Nat} {ls : List (Nat × Value)} {st : List Value} {v : zV} (F : zF x G cc nL own fr lo) {i idx : Nat} (hT : zty i 1 4) (hlink : Cond.fieldLink own idx "ContraryChairs$Foresight" "calendar" "LContraryChairs$Calendar;" ∈ zTbl) (hd : decode cc pc = .ok (.getfield idx, 3)) (kk : zJ x G nL Q cs sl (pc + 3) ls (zr G (zrf i 1) :: st) v) : zJ x G nL Q cs sl pc ls (zr G i :: st) v := z_getR F (c := 4) (C := RX4) (T := TX4) (N := 13) rfl uw_4 1 (by decide) (by decide +kernel) (by decide +kernel) hT hlink hd kk
theorem tc_4_1 : zchk 4 1 1 2 = true := by decide +kernel
theorem zg_4_2 {x : zCx} {G : zG} {cc : ByteArray} {nL : Nat} {own : String} {fr lo : Nat} {Q : State → Prop} {cs sl pc : Nat} {ls : List (Nat × Value)} {st : List Value} {v : zV} (F : zF x G cc nL own fr lo) {i idx : Nat} (hT : zty i 1 4) (hlink : Cond.fieldLink own idx "ContraryChairs$Foresight" "now" "LContraryChairs$Row;" ∈ zTbl) (hd : decode cc pc = .ok (.getfield idx, 3)) (kk : zJ x G nL Q cs sl (pc + 3) ls (zr G (zrf i 2) :: st) v) : zJ x G nL Q cs sl pc ls (zr G i :: st) v := z_getR F (c := 4) (C := RX4) (T := TX4) (N := 13) rfl uw_4 2 (by decide) (by decide +kernel) (by decide +kernel) hT hlink hd kk
theorem tc_4_2 : zchk 4 2 1 7 = true := by decide +kernel
theorem zg_4_3 {x : zCx} {G : zG} {cc : ByteArray} {nL : Nat} {own : String} {fr lo : Nat} {Q : State → Prop} {cs sl pc : Nat} {ls : List (Nat × Value)} {st : List Value} {v : zV} (F : zF x G cc nL own fr lo) {i idx : Nat} (hT : zty i 1 4) (hlink : Cond.fieldLink own idx "ContraryChairs$Foresight" "trial" "LContraryChairs$Row;" ∈ zTbl) (hd : decode cc pc = .ok (.getfield idx, 3)) (kk : zJ x G nL Q cs sl (pc + 3) ls (zr G (zrf i 3) :: st) v) : zJ x G nL Q cs sl pc ls (zr G i :: st) v := z_getR F (c := 4) (C := RX4) (T := TX4) (N := 13) rfl uw_4 3 (by decide) (by decide +kernel) (by decide +kernel) hT hlink hd kk
theorem tc_4_3 : zchk 4 3 1 7 = true := by decide +kernel
theorem zg_4_4 {x : zCx} {G : zG} {cc : ByteArray} {nL : Nat} {own : String} {fr lo : Nat} {Q : State → Prop} {cs sl pc : Nat} {ls : List (Nat × Value)} {st : List Value} {v : zV} (F : zF x G cc nL own fr lo) {i idx : Nat} (hT : zty i 1 4) (hlink : Cond.fieldLink own idx "ContraryChairs$Foresight" "stages" "[LContraryChairs$Row;" ∈ zTbl) (hd : decode cc pc = .ok (.getfield idx, 3)) (kk : zJ x G nL Q cs sl (pc + 3) ls (zr G (zrf i 4) :: st) v) : zJ x G nL Q cs sl pc ls (zr G i :: st) v := z_getR F (c := 4) (C := RX4) (T := TX4) (N := 13) rfl uw_4 4 (by decide) (by decide +kernel) (by decide +kernel) hT hlink hd kk
theorem tc_4_4 : zchk 4 4 2 4 = true := by decide +kernel
theorem zg_4_5 {x : zCx} {G : zG} {cc : ByteArray} {nL : Nat} {own : String} {fr lo : Nat} {Q : State → Prop} {cs sl pc : Nat} {ls : List (Nat × Value)} {st : List Value} {v : zV} (F : zF x G cc nL own fr lo) {i idx : Nat} (hT : zty i 1 4) (hlink : Cond.fieldLink own idx "ContraryChairs$Foresight" "outcomes" "[I" ∈ zTbl) (hd : decode cc pc = .ok (.getfield idx, 3)) (kk : zJ x G nL Q cs sl (pc + 3) ls (zr G (zrf i 5) :: st) v) : zJ x G nL Q cs sl pc ls (zr G i :: st) v := z_getR F (c := 4) (C := RX4) (T := TX4) (N := 13) rfl uw_4 5 (by decide) (by decide +kernel) (by decide +kernel) hT hlink hd kk
theorem tc_4_5 : zchk 4 5 2 0 = true := by decide +kernel
theorem zg_4_6 {x : zCx} {G : zG} {cc : ByteArray} {nL : Nat} {own : String} {fr lo : Nat} {Q : State → Prop} {cs sl pc : Nat} {ls : List (Nat × Value)} {st : List Value} {v : zV} (F : zF x G cc nL own fr lo) {i idx : Nat} (hT : zty i 1 4) (hlink : Cond.fieldLink own idx "ContraryChairs$Foresight" "marked" "[I" ∈ zTbl) (hd : decode cc pc = .ok (.getfield idx, 3)) (kk : zJ x G nL Q cs sl (pc + 3) ls (zr G (zrf i 6) :: st) v) : zJ x G nL Q cs sl pc ls (zr G i :: st) v := z_getR F (c := 4) (C := RX4) (T := TX4) (N := 13) rfl uw_4 6 (by decide) (by decide +kernel) (by decide +kernel) hT hlink hd kk
theorem tc_4_6 : zchk 4 6 2 0 = true := by decide +kernel
theorem zg_4_7 {x : zCx} {G : zG} {cc : ByteArray} {nL : Nat} {own : String} {fr lo : Nat} {Q : State → Prop} {cs sl pc : Nat} {ls : List (Nat × Value)} {st : List Value} {v : zV} (F : zF x G cc nL own fr lo) {i idx : Nat} (hT : zty i 1 4) (hlink : Cond.fieldLink own idx "ContraryChairs$Foresight" "choices" "[I" ∈ zTbl) (hd : decode cc pc = .ok (.getfield idx, 3)) (kk : zJ x G nL Q cs sl (pc + 3) ls (zr G (zrf i 7) :: st) v) : zJ x G nL Q cs sl pc ls (zr G i :: st) v := z_getR F (c := 4) (C := RX4) (T := TX4) (N := 13) rfl uw_4 7 (by decide) (by decide +kernel) (by decide +kernel) hT hlink hd kk
theorem tc_4_7 : zchk 4 7 2 0 = true := by decide +kernel
theorem zg_4_8 {x : zCx} {G : zG} {cc : ByteArray} {nL : Nat} {own : String} {fr lo : Nat} {Q : State → Prop} {cs sl pc : Nat} {ls : List (Nat × Value)} {st : List Value} {v : zV} (F : zF x G cc nL own fr lo) {i idx : Nat} (hT : zty i 1 4) (hlink : Cond.fieldLink own idx "ContraryChairs$Foresight" "fewest" "I" ∈ zTbl) (hd : decode cc pc = .ok (.getfield idx, 3)) (kk : zJ x G nL Q cs sl (pc + 3) ls (.int (v i 8) :: st) v) : zJ x G nL Q cs sl pc ls (zr G i :: st) v := z_getI F (c := 4) (C := RX4) (T := TX4) (N := 13) rfl uw_4 8 (by decide) (by decide +kernel) (by decide +kernel) hT hlink hd kk
theorem zp_4_8 {x : zCx} {G : zG} {cc : ByteArray} {nL : Nat} {own : String} {fr lo : Nat} {Q : State → Prop} {cs sl pc : Nat} {ls : List (Nat × Value)} {st : List Value} {v : zV} (F : zF x G cc nL own fr lo) {i idx : Nat} {y : Int32} (hT : zty i 1 4) (hlink : Cond.fieldLink own idx "ContraryChairs$Foresight" "fewest" "I" ∈ zTbl) (hd : decode cc pc = .ok (.putfield idx, 3)) (kk : zJ x G nL Q cs sl (pc + 3) ls st (zup v i 8 y)) : zJ x G nL Q cs sl pc ls (.int y :: zr G i :: st) v := z_putI F (c := 4) (C := RX4) (T := TX4) (N := 13) (ty := .int) tyX4 tyX4_ok nmX4 rfl uw_4 8 (by decide) (by decide +kernel) (by decide +kernel) rfl (by decide +kernel) rfl rfl hT hlink hd kk
theorem zg_4_9 {x : zCx} {G : zG} {cc : ByteArray} {nL : Nat} {own : String} {fr lo : Nat} {Q : State → Prop} {cs sl pc : Nat} {ls : List (Nat × Value)} {st : List Value} {v : zV} (F : zF x G cc nL own fr lo) {i idx : Nat} (hT : zty i 1 4) (hlink : Cond.fieldLink own idx "ContraryChairs$Foresight" "firstWay" "I" ∈ zTbl) (hd : decode cc pc = .ok (.getfield idx, 3)) (kk : zJ x G nL Q cs sl (pc + 3) ls (.int (v i 9) :: st) v) : zJ x G nL Q cs sl pc ls (zr G i :: st) v := z_getI F (c := 4) (C := RX4) (T := TX4) (N := 13) rfl uw_4 9 (by decide) (by decide +kernel) (by decide +kernel) hT hlink hd kk
theorem zp_4_9 {x : zCx} {G : zG} {cc : ByteArray} {nL : Nat} {own : String} {fr lo : Nat} {Q : State → Prop} {cs sl pc : Nat} {ls : List (Nat × Value)} {st : List Value} {v : zV} (F : zF x G cc nL own fr lo) {i idx : Nat} {y : Int32} (hT : zty i 1 4) (hlink : Cond.fieldLink own idx "ContraryChairs$Foresight" "firstWay" "I" ∈ zTbl) (hd : decode cc pc = .ok (.putfield idx, 3)) (kk : zJ x G nL Q cs sl (pc + 3) ls st (zup v i 9 y)) : zJ x G nL Q cs sl pc ls (.int y :: zr G i :: st) v := z_putI F (c := 4) (C := RX4) (T := TX4) (N := 13) (ty := .int) tyX4 tyX4_ok nmX4 rfl uw_4 9 (by decide) (by decide +kernel) (by decide +kernel) rfl (by decide +kernel) rfl rfl hT hlink hd kk
theorem zg_4_10 {x : zCx} {G : zG} {cc : ByteArray} {nL : Nat} {own : String} {fr lo : Nat} {Q : State → Prop} {cs sl pc : Nat} {ls : List (Nat × Value)} {st : List Value} {v : zV} (F : zF x G cc nL own fr lo) {i idx : Nat} (hT : zty i 1 4) (hlink : Cond.fieldLink own idx "ContraryChairs$Foresight" "fewestSat" "I" ∈ zTbl) (hd : decode cc pc = .ok (.getfield idx, 3)) (kk : zJ x G nL Q cs sl (pc + 3) ls (.int (v i 10) :: st) v) : zJ x G nL Q cs sl pc ls (zr G i :: st) v := z_getI F (c := 4) (C := RX4) (T := TX4) (N := 13) rfl uw_4 10 (by decide) (by decide +kernel) (by decide +kernel) hT hlink hd kk
theorem zp_4_10 {x : zCx} {G : zG} {cc : ByteArray} {nL : Nat} {own : String} {fr lo : Nat} {Q : State → Prop} {cs sl pc : Nat} {ls : List (Nat × Value)} {st : List Value} {v : zV} (F : zF x G cc nL own fr lo) {i idx : Nat} {y : Int32} (hT : zty i 1 4) (hlink : Cond.fieldLink own idx "ContraryChairs$Foresight" "fewestSat" "I" ∈ zTbl) (hd : decode cc pc = .ok (.putfield idx, 3)) (kk : zJ x G nL Q cs sl (pc + 3) ls st (zup v i 10 y)) : zJ x G nL Q cs sl pc ls (.int y :: zr G i :: st) v := z_putI F (c := 4) (C := RX4) (T := TX4) (N := 13) (ty := .int) tyX4 tyX4_ok nmX4 rfl uw_4 10 (by decide) (by decide +kernel) (by decide +kernel) rfl (by decide +kernel) rfl rfl hT hlink hd kk
theorem zg_4_11 {x : zCx} {G : zG} {cc : ByteArray} {nL : Nat} {own : String} {fr lo : Nat} {Q : State → Prop} {cs sl pc : Nat} {ls : List (Nat × Value)} {st : List Value} {v : zV} (F : zF x G cc nL own fr lo) {i idx : Nat} (hT : zty i 1 4) (hlink : Cond.fieldLink own idx "ContraryChairs$Foresight" "mostSat" "I" ∈ zTbl) (hd : decode cc pc = .ok (.getfield idx, 3)) (kk : zJ x G nL Q cs sl (pc + 3) ls (.int (v i 11) :: st) v) : zJ x G nL Q cs sl pc ls (zr G i :: st) v := z_getI F (c := 4) (C := RX4) (T := TX4) (N := 13) rfl uw_4 11 (by decide) (by decide +kernel) (by decide +kernel) hT hlink hd kk
theorem zp_4_11 {x : zCx} {G : zG} {cc : ByteArray} {nL : Nat} {own : String} {fr lo : Nat} {Q : State → Prop} {cs sl pc : Nat} {ls : List (Nat × Value)} {st : List Value} {v : zV} (F : zF x G cc nL own fr lo) {i idx : Nat} {y : Int32} (hT : zty i 1 4) (hlink : Cond.fieldLink own idx "ContraryChairs$Foresight" "mostSat" "I" ∈ zTbl) (hd : decode cc pc = .ok (.putfield idx, 3)) (kk : zJ x G nL Q cs sl (pc + 3) ls st (zup v i 11 y)) : zJ x G nL Q cs sl pc ls (.int y :: zr G i :: st) v := z_putI F (c := 4) (C := RX4) (T := TX4) (N := 13) (ty := .int) tyX4 tyX4_ok nmX4 rfl uw_4 11 (by decide) (by decide +kernel) (by decide +kernel) rfl (by decide +kernel) rfl rfl hT hlink hd kk
theorem zg_4_12 {x : zCx} {G : zG} {cc : ByteArray} {nL : Nat} {own : String} {fr lo : Nat} {Q : State → Prop} {cs sl pc : Nat} {ls : List (Nat × Value)} {st : List Value} {v : zV} (F : zF x G cc nL own fr lo) {i idx : Nat} (hT : zty i 1 4) (hlink : Cond.fieldLink own idx "ContraryChairs$Foresight" "sittings" "I" ∈ zTbl) (hd : decode cc pc = .ok (.getfield idx, 3)) (kk : zJ x G nL Q cs sl (pc + 3) ls (.int (v i 12) :: st) v) : zJ x G nL Q cs sl pc ls (zr G i :: st) v := z_getI F (c := 4) (C := RX4) (T := TX4) (N := 13) rfl uw_4 12 (by decide) (by decide +kernel) (by decide +kernel) hT hlink hd kk
theorem zp_4_12 {x : zCx} {G : zG} {cc : ByteArray} {nL : Nat} {own : String} {fr lo : Nat} {Q : State → Prop} {cs sl pc : Nat} {ls : List (Nat × Value)} {st : List Value} {v : zV} (F : zF x G cc nL own fr lo) {i idx : Nat} {y : Int32} (hT : zty i 1 4) (hlink : Cond.fieldLink own idx "ContraryChairs$Foresight" "sittings" "I" ∈ zTbl) (hd : decode cc pc = .ok (.putfield idx, 3)) (kk : zJ x G nL Q cs sl (pc + 3) ls st (zup v i 12 y)) : zJ x G nL Q cs sl pc ls (.int y :: zr G i :: st) v := z_putI F (c := 4) (C := RX4) (T := TX4) (N := 13) (ty := .int) tyX4 tyX4_ok nmX4 rfl uw_4 12 (by decide) (by decide +kernel) (by decide +kernel) rfl (by decide +kernel) rfl rfl hT hlink hd kk
theorem uw_5 : ∀ w ∈ u_ws RX5 TX5 4, w ∈ zTbl := by decide +kernel
theorem zg_5_0 {x : zCx} {G : zG} {cc : ByteArray} {nL : Nat} {own : String} {fr lo : Nat} {Q : State → Prop} {cs sl pc : Nat} {ls : List (Nat × Value)} {st : List Value} {v : zV} (F : zF x G cc nL own fr lo) {i idx : Nat} (hT : zty i 1 5) (hlink : Cond.fieldLink own idx "ContraryChairs$Law" "steps" "[I" ∈ zTbl) (hd : decode cc pc = .ok (.getfield idx, 3)) (kk : zJ x G nL Q cs sl (pc + 3) ls (zr G (zrf i 0) :: st) v) : zJ x G nL Q cs sl pc ls (zr G i :: st) v := z_getR F (c := 5) (C := RX5) (T := TX5) (N := 4) rfl uw_5 0 (by decide) (by decide +kernel) (by decide +kernel) hT hlink hd kk
theorem tc_5_0 : zchk 5 0 2 0 = true := by decide +kernel
theorem zg_5_1 {x : zCx} {G : zG} {cc : ByteArray} {nL : Nat} {own : String} {fr lo : Nat} {Q : State → Prop} {cs sl pc : Nat} {ls : List (Nat × Value)} {st : List Value} {v : zV} (F : zF x G cc nL own fr lo) {i idx : Nat} (hT : zty i 1 5) (hlink : Cond.fieldLink own idx "ContraryChairs$Law" "values" "[I" ∈ zTbl) (hd : decode cc pc = .ok (.getfield idx, 3)) (kk : zJ x G nL Q cs sl (pc + 3) ls (zr G (zrf i 1) :: st) v) : zJ x G nL Q cs sl pc ls (zr G i :: st) v := z_getR F (c := 5) (C := RX5) (T := TX5) (N := 4) rfl uw_5 1 (by decide) (by decide +kernel) (by decide +kernel) hT hlink hd kk
theorem tc_5_1 : zchk 5 1 2 0 = true := by decide +kernel
theorem zg_5_2 {x : zCx} {G : zG} {cc : ByteArray} {nL : Nat} {own : String} {fr lo : Nat} {Q : State → Prop} {cs sl pc : Nat} {ls : List (Nat × Value)} {st : List Value} {v : zV} (F : zF x G cc nL own fr lo) {i idx : Nat} (hT : zty i 1 5) (hlink : Cond.fieldLink own idx "ContraryChairs$Law" "facts" "[I" ∈ zTbl) (hd : decode cc pc = .ok (.getfield idx, 3)) (kk : zJ x G nL Q cs sl (pc + 3) ls (zr G (zrf i 2) :: st) v) : zJ x G nL Q cs sl pc ls (zr G i :: st) v := z_getR F (c := 5) (C := RX5) (T := TX5) (N := 4) rfl uw_5 2 (by decide) (by decide +kernel) (by decide +kernel) hT hlink hd kk
theorem tc_5_2 : zchk 5 2 2 0 = true := by decide +kernel
theorem zg_5_3 {x : zCx} {G : zG} {cc : ByteArray} {nL : Nat} {own : String} {fr lo : Nat} {Q : State → Prop} {cs sl pc : Nat} {ls : List (Nat × Value)} {st : List Value} {v : zV} (F : zF x G cc nL own fr lo) {i idx : Nat} (hT : zty i 1 5) (hlink : Cond.fieldLink own idx "ContraryChairs$Law" "size" "I" ∈ zTbl) (hd : decode cc pc = .ok (.getfield idx, 3)) (kk : zJ x G nL Q cs sl (pc + 3) ls (.int (v i 3) :: st) v) : zJ x G nL Q cs sl pc ls (zr G i :: st) v := z_getI F (c := 5) (C := RX5) (T := TX5) (N := 4) rfl uw_5 3 (by decide) (by decide +kernel) (by decide +kernel) hT hlink hd kk
theorem zp_5_3 {x : zCx} {G : zG} {cc : ByteArray} {nL : Nat} {own : String} {fr lo : Nat} {Q : State → Prop} {cs sl pc : Nat} {ls : List (Nat × Value)} {st : List Value} {v : zV} (F : zF x G cc nL own fr lo) {i idx : Nat} {y : Int32} (hT : zty i 1 5) (hlink : Cond.fieldLink own idx "ContraryChairs$Law" "size" "I" ∈ zTbl) (hd : decode cc pc = .ok (.putfield idx, 3)) (kk : zJ x G nL Q cs sl (pc + 3) ls st (zup v i 3 y)) : zJ x G nL Q cs sl pc ls (.int y :: zr G i :: st) v := z_putI F (c := 5) (C := RX5) (T := TX5) (N := 4) (ty := .int) tyX5 tyX5_ok nmX5 rfl uw_5 3 (by decide) (by decide +kernel) (by decide +kernel) rfl (by decide +kernel) rfl rfl hT hlink hd kk
theorem uw_6 : ∀ w ∈ u_ws RX6 TX6 8, w ∈ zTbl := by decide +kernel
theorem zg_6_0 {x : zCx} {G : zG} {cc : ByteArray} {nL : Nat} {own : String} {fr lo : Nat} {Q : State → Prop} {cs sl pc : Nat} {ls : List (Nat × Value)} {st : List Value} {v : zV} (F : zF x G cc nL own fr lo) {i idx : Nat} (hT : zty i 1 6) (hlink : Cond.fieldLink own idx "ContraryChairs$Records" "academy" "LContraryChairs$Academy;" ∈ zTbl) (hd : decode cc pc = .ok (.getfield idx, 3)) (kk : zJ x G nL Q cs sl (pc + 3) ls (zr G (zrf i 0) :: st) v) : zJ x G nL Q cs sl pc ls (zr G i :: st) v := z_getR F (c := 6) (C := RX6) (T := TX6) (N := 8) rfl uw_6 0 (by decide) (by decide +kernel) (by decide +kernel) hT hlink hd kk
theorem tc_6_0 : zchk 6 0 1 0 = true := by decide +kernel
theorem zg_6_1 {x : zCx} {G : zG} {cc : ByteArray} {nL : Nat} {own : String} {fr lo : Nat} {Q : State → Prop} {cs sl pc : Nat} {ls : List (Nat × Value)} {st : List Value} {v : zV} (F : zF x G cc nL own fr lo) {i idx : Nat} (hT : zty i 1 6) (hlink : Cond.fieldLink own idx "ContraryChairs$Records" "book" "LContraryChairs$Book;" ∈ zTbl) (hd : decode cc pc = .ok (.getfield idx, 3)) (kk : zJ x G nL Q cs sl (pc + 3) ls (zr G (zrf i 1) :: st) v) : zJ x G nL Q cs sl pc ls (zr G i :: st) v := z_getR F (c := 6) (C := RX6) (T := TX6) (N := 8) rfl uw_6 1 (by decide) (by decide +kernel) (by decide +kernel) hT hlink hd kk
theorem tc_6_1 : zchk 6 1 1 1 = true := by decide +kernel
theorem zg_6_2 {x : zCx} {G : zG} {cc : ByteArray} {nL : Nat} {own : String} {fr lo : Nat} {Q : State → Prop} {cs sl pc : Nat} {ls : List (Nat × Value)} {st : List Value} {v : zV} (F : zF x G cc nL own fr lo) {i idx : Nat} (hT : zty i 1 6) (hlink : Cond.fieldLink own idx "ContraryChairs$Records" "calendar" "LContraryChairs$Calendar;" ∈ zTbl) (hd : decode cc pc = .ok (.getfield idx, 3)) (kk : zJ x G nL Q cs sl (pc + 3) ls (zr G (zrf i 2) :: st) v) : zJ x G nL Q cs sl pc ls (zr G i :: st) v := z_getR F (c := 6) (C := RX6) (T := TX6) (N := 8) rfl uw_6 2 (by decide) (by decide +kernel) (by decide +kernel) hT hlink hd kk
theorem tc_6_2 : zchk 6 2 1 2 = true := by decide +kernel
theorem zg_6_3 {x : zCx} {G : zG} {cc : ByteArray} {nL : Nat} {own : String} {fr lo : Nat} {Q : State → Prop} {cs sl pc : Nat} {ls : List (Nat × Value)} {st : List Value} {v : zV} (F : zF x G cc nL own fr lo) {i idx : Nat} (hT : zty i 1 6) (hlink : Cond.fieldLink own idx "ContraryChairs$Records" "trial" "LContraryChairs$Row;" ∈ zTbl) (hd : decode cc pc = .ok (.getfield idx, 3)) (kk : zJ x G nL Q cs sl (pc + 3) ls (zr G (zrf i 3) :: st) v) : zJ x G nL Q cs sl pc ls (zr G i :: st) v := z_getR F (c := 6) (C := RX6) (T := TX6) (N := 8) rfl uw_6 3 (by decide) (by decide +kernel) (by decide +kernel) hT hlink hd kk
theorem tc_6_3 : zchk 6 3 1 7 = true := by decide +kernel
theorem zg_6_4 {x : zCx} {G : zG} {cc : ByteArray} {nL : Nat} {own : String} {fr lo : Nat} {Q : State → Prop} {cs sl pc : Nat} {ls : List (Nat × Value)} {st : List Value} {v : zV} (F : zF x G cc nL own fr lo) {i idx : Nat} (hT : zty i 1 6) (hlink : Cond.fieldLink own idx "ContraryChairs$Records" "takenIn" "[I" ∈ zTbl) (hd : decode cc pc = .ok (.getfield idx, 3)) (kk : zJ x G nL Q cs sl (pc + 3) ls (zr G (zrf i 4) :: st) v) : zJ x G nL Q cs sl pc ls (zr G i :: st) v := z_getR F (c := 6) (C := RX6) (T := TX6) (N := 8) rfl uw_6 4 (by decide) (by decide +kernel) (by decide +kernel) hT hlink hd kk
theorem tc_6_4 : zchk 6 4 2 0 = true := by decide +kernel
theorem zg_6_5 {x : zCx} {G : zG} {cc : ByteArray} {nL : Nat} {own : String} {fr lo : Nat} {Q : State → Prop} {cs sl pc : Nat} {ls : List (Nat × Value)} {st : List Value} {v : zV} (F : zF x G cc nL own fr lo) {i idx : Nat} (hT : zty i 1 6) (hlink : Cond.fieldLink own idx "ContraryChairs$Records" "sidesSeen" "[I" ∈ zTbl) (hd : decode cc pc = .ok (.getfield idx, 3)) (kk : zJ x G nL Q cs sl (pc + 3) ls (zr G (zrf i 5) :: st) v) : zJ x G nL Q cs sl pc ls (zr G i :: st) v := z_getR F (c := 6) (C := RX6) (T := TX6) (N := 8) rfl uw_6 5 (by decide) (by decide +kernel) (by decide +kernel) hT hlink hd kk
theorem tc_6_5 : zchk 6 5 2 0 = true := by decide +kernel
theorem zg_6_6 {x : zCx} {G : zG} {cc : ByteArray} {nL : Nat} {own : String} {fr lo : Nat} {Q : State → Prop} {cs sl pc : Nat} {ls : List (Nat × Value)} {st : List Value} {v : zV} (F : zF x G cc nL own fr lo) {i idx : Nat} (hT : zty i 1 6) (hlink : Cond.fieldLink own idx "ContraryChairs$Records" "ways" "I" ∈ zTbl) (hd : decode cc pc = .ok (.getfield idx, 3)) (kk : zJ x G nL Q cs sl (pc + 3) ls (.int (v i 6) :: st) v) : zJ x G nL Q cs sl pc ls (zr G i :: st) v := z_getI F (c := 6) (C := RX6) (T := TX6) (N := 8) rfl uw_6 6 (by decide) (by decide +kernel) (by decide +kernel) hT hlink hd kk
theorem zp_6_6 {x : zCx} {G : zG} {cc : ByteArray} {nL : Nat} {own : String} {fr lo : Nat} {Q : State → Prop} {cs sl pc : Nat} {ls : List (Nat × Value)} {st : List Value} {v : zV} (F : zF x G cc nL own fr lo) {i idx : Nat} {y : Int32} (hT : zty i 1 6) (hlink : Cond.fieldLink own idx "ContraryChairs$Records" "ways" "I" ∈ zTbl) (hd : decode cc pc = .ok (.putfield idx, 3)) (kk : zJ x G nL Q cs sl (pc + 3) ls st (zup v i 6 y)) : zJ x G nL Q cs sl pc ls (.int y :: zr G i :: st) v := z_putI F (c := 6) (C := RX6) (T := TX6) (N := 8) (ty := .int) tyX6 tyX6_ok nmX6 rfl uw_6 6 (by decide) (by decide +kernel) (by decide +kernel) rfl (by decide +kernel) rfl rfl hT hlink hd kk
theorem zg_6_7 {x : zCx} {G : zG} {cc : ByteArray} {nL : Nat} {own : String} {fr lo : Nat} {Q : State → Prop} {cs sl pc : Nat} {ls : List (Nat × Value)} {st : List Value} {v : zV} (F : zF x G cc nL own fr lo) {i idx : Nat} (hT : zty i 1 6) (hlink : Cond.fieldLink own idx "ContraryChairs$Records" "firstWay" "I" ∈ zTbl) (hd : decode cc pc = .ok (.getfield idx, 3)) (kk : zJ x G nL Q cs sl (pc + 3) ls (.int (v i 7) :: st) v) : zJ x G nL Q cs sl pc ls (zr G i :: st) v := z_getI F (c := 6) (C := RX6) (T := TX6) (N := 8) rfl uw_6 7 (by decide) (by decide +kernel) (by decide +kernel) hT hlink hd kk
theorem zp_6_7 {x : zCx} {G : zG} {cc : ByteArray} {nL : Nat} {own : String} {fr lo : Nat} {Q : State → Prop} {cs sl pc : Nat} {ls : List (Nat × Value)} {st : List Value} {v : zV} (F : zF x G cc nL own fr lo) {i idx : Nat} {y : Int32} (hT : zty i 1 6) (hlink : Cond.fieldLink own idx "ContraryChairs$Records" "firstWay" "I" ∈ zTbl) (hd : decode cc pc = .ok (.putfield idx, 3)) (kk : zJ x G nL Q cs sl (pc + 3) ls st (zup v i 7 y)) : zJ x G nL Q cs sl pc ls (.int y :: zr G i :: st) v := z_putI F (c := 6) (C := RX6) (T := TX6) (N := 8) (ty := .int) tyX6 tyX6_ok nmX6 rfl uw_6 7 (by decide) (by decide +kernel) (by decide +kernel) rfl (by decide +kernel) rfl rfl hT hlink hd kk
theorem uw_7 : ∀ w ∈ u_ws RX7 TX7 13, w ∈ zTbl := by decide +kernel
theorem zg_7_0 {x : zCx} {G : zG} {cc : ByteArray} {nL : Nat} {own : String} {fr lo : Nat} {Q : State → Prop} {cs sl pc : Nat} {ls : List (Nat × Value)} {st : List Value} {v : zV} (F : zF x G cc nL own fr lo) {i idx : Nat} (hT : zty i 1 7) (hlink : Cond.fieldLink own idx "ContraryChairs$Row" "year" "I" ∈ zTbl) (hd : decode cc pc = .ok (.getfield idx, 3)) (kk : zJ x G nL Q cs sl (pc + 3) ls (.int (v i 0) :: st) v) : zJ x G nL Q cs sl pc ls (zr G i :: st) v := z_getI F (c := 7) (C := RX7) (T := TX7) (N := 13) rfl uw_7 0 (by decide) (by decide +kernel) (by decide +kernel) hT hlink hd kk
theorem zp_7_0 {x : zCx} {G : zG} {cc : ByteArray} {nL : Nat} {own : String} {fr lo : Nat} {Q : State → Prop} {cs sl pc : Nat} {ls : List (Nat × Value)} {st : List Value} {v : zV} (F : zF x G cc nL own fr lo) {i idx : Nat} {y : Int32} (hT : zty i 1 7) (hlink : Cond.fieldLink own idx "ContraryChairs$Row" "year" "I" ∈ zTbl) (hd : decode cc pc = .ok (.putfield idx, 3)) (kk : zJ x G nL Q cs sl (pc + 3) ls st (zup v i 0 y)) : zJ x G nL Q cs sl pc ls (.int y :: zr G i :: st) v := z_putI F (c := 7) (C := RX7) (T := TX7) (N := 13) (ty := .int) tyX7 tyX7_ok nmX7 rfl uw_7 0 (by decide) (by decide +kernel) (by decide +kernel) rfl (by decide +kernel) rfl rfl hT hlink hd kk
theorem zg_7_1 {x : zCx} {G : zG} {cc : ByteArray} {nL : Nat} {own : String} {fr lo : Nat} {Q : State → Prop} {cs sl pc : Nat} {ls : List (Nat × Value)} {st : List Value} {v : zV} (F : zF x G cc nL own fr lo) {i idx : Nat} (hT : zty i 1 7) (hlink : Cond.fieldLink own idx "ContraryChairs$Row" "sat" "I" ∈ zTbl) (hd : decode cc pc = .ok (.getfield idx, 3)) (kk : zJ x G nL Q cs sl (pc + 3) ls (.int (v i 1) :: st) v) : zJ x G nL Q cs sl pc ls (zr G i :: st) v := z_getI F (c := 7) (C := RX7) (T := TX7) (N := 13) rfl uw_7 1 (by decide) (by decide +kernel) (by decide +kernel) hT hlink hd kk
theorem zp_7_1 {x : zCx} {G : zG} {cc : ByteArray} {nL : Nat} {own : String} {fr lo : Nat} {Q : State → Prop} {cs sl pc : Nat} {ls : List (Nat × Value)} {st : List Value} {v : zV} (F : zF x G cc nL own fr lo) {i idx : Nat} {y : Int32} (hT : zty i 1 7) (hlink : Cond.fieldLink own idx "ContraryChairs$Row" "sat" "I" ∈ zTbl) (hd : decode cc pc = .ok (.putfield idx, 3)) (kk : zJ x G nL Q cs sl (pc + 3) ls st (zup v i 1 y)) : zJ x G nL Q cs sl pc ls (.int y :: zr G i :: st) v := z_putI F (c := 7) (C := RX7) (T := TX7) (N := 13) (ty := .int) tyX7 tyX7_ok nmX7 rfl uw_7 1 (by decide) (by decide +kernel) (by decide +kernel) rfl (by decide +kernel) rfl rfl hT hlink hd kk
theorem zg_7_2 {x : zCx} {G : zG} {cc : ByteArray} {nL : Nat} {own : String} {fr lo : Nat} {Q : State → Prop} {cs sl pc : Nat} {ls : List (Nat × Value)} {st : List Value} {v : zV} (F : zF x G cc nL own fr lo) {i idx : Nat} (hT : zty i 1 7) (hlink : Cond.fieldLink own idx "ContraryChairs$Row" "voids" "I" ∈ zTbl) (hd : decode cc pc = .ok (.getfield idx, 3)) (kk : zJ x G nL Q cs sl (pc + 3) ls (.int (v i 2) :: st) v) : zJ x G nL Q cs sl pc ls (zr G i :: st) v := z_getI F (c := 7) (C := RX7) (T := TX7) (N := 13) rfl uw_7 2 (by decide) (by decide +kernel) (by decide +kernel) hT hlink hd kk
theorem zp_7_2 {x : zCx} {G : zG} {cc : ByteArray} {nL : Nat} {own : String} {fr lo : Nat} {Q : State → Prop} {cs sl pc : Nat} {ls : List (Nat × Value)} {st : List Value} {v : zV} (F : zF x G cc nL own fr lo) {i idx : Nat} {y : Int32} (hT : zty i 1 7) (hlink : Cond.fieldLink own idx "ContraryChairs$Row" "voids" "I" ∈ zTbl) (hd : decode cc pc = .ok (.putfield idx, 3)) (kk : zJ x G nL Q cs sl (pc + 3) ls st (zup v i 2 y)) : zJ x G nL Q cs sl pc ls (.int y :: zr G i :: st) v := z_putI F (c := 7) (C := RX7) (T := TX7) (N := 13) (ty := .int) tyX7 tyX7_ok nmX7 rfl uw_7 2 (by decide) (by decide +kernel) (by decide +kernel) rfl (by decide +kernel) rfl rfl hT hlink hd kk
theorem zg_7_3 {x : zCx} {G : zG} {cc : ByteArray} {nL : Nat} {own : String} {fr lo : Nat} {Q : State → Prop} {cs sl pc : Nat} {ls : List (Nat × Value)} {st : List Value} {v : zV} (F : zF x G cc nL own fr lo) {i idx : Nat} (hT : zty i 1 7) (hlink : Cond.fieldLink own idx "ContraryChairs$Row" "entered" "I" ∈ zTbl) (hd : decode cc pc = .ok (.getfield idx, 3)) (kk : zJ x G nL Q cs sl (pc + 3) ls (.int (v i 3) :: st) v) : zJ x G nL Q cs sl pc ls (zr G i :: st) v := z_getI F (c := 7) (C := RX7) (T := TX7) (N := 13) rfl uw_7 3 (by decide) (by decide +kernel) (by decide +kernel) hT hlink hd kk
theorem zp_7_3 {x : zCx} {G : zG} {cc : ByteArray} {nL : Nat} {own : String} {fr lo : Nat} {Q : State → Prop} {cs sl pc : Nat} {ls : List (Nat × Value)} {st : List Value} {v : zV} (F : zF x G cc nL own fr lo) {i idx : Nat} {y : Int32} (hT : zty i 1 7) (hlink : Cond.fieldLink own idx "ContraryChairs$Row" "entered" "I" ∈ zTbl) (hd : decode cc pc = .ok (.putfield idx, 3)) (kk : zJ x G nL Q cs sl (pc + 3) ls st (zup v i 3 y)) : zJ x G nL Q cs sl pc ls (.int y :: zr G i :: st) v := z_putI F (c := 7) (C := RX7) (T := TX7) (N := 13) (ty := .int) tyX7 tyX7_ok nmX7 rfl uw_7 3 (by decide) (by decide +kernel) (by decide +kernel) rfl (by decide +kernel) rfl rfl hT hlink hd kk
theorem zg_7_4 {x : zCx} {G : zG} {cc : ByteArray} {nL : Nat} {own : String} {fr lo : Nat} {Q : State → Prop} {cs sl pc : Nat} {ls : List (Nat × Value)} {st : List Value} {v : zV} (F : zF x G cc nL own fr lo) {i idx : Nat} (hT : zty i 1 7) (hlink : Cond.fieldLink own idx "ContraryChairs$Row" "left" "I" ∈ zTbl) (hd : decode cc pc = .ok (.getfield idx, 3)) (kk : zJ x G nL Q cs sl (pc + 3) ls (.int (v i 4) :: st) v) : zJ x G nL Q cs sl pc ls (zr G i :: st) v := z_getI F (c := 7) (C := RX7) (T := TX7) (N := 13) rfl uw_7 4 (by decide) (by decide +kernel) (by decide +kernel) hT hlink hd kk
theorem zp_7_4 {x : zCx} {G : zG} {cc : ByteArray} {nL : Nat} {own : String} {fr lo : Nat} {Q : State → Prop} {cs sl pc : Nat} {ls : List (Nat × Value)} {st : List Value} {v : zV} (F : zF x G cc nL own fr lo) {i idx : Nat} {y : Int32} (hT : zty i 1 7) (hlink : Cond.fieldLink own idx "ContraryChairs$Row" "left" "I" ∈ zTbl) (hd : decode cc pc = .ok (.putfield idx, 3)) (kk : zJ x G nL Q cs sl (pc + 3) ls st (zup v i 4 y)) : zJ x G nL Q cs sl pc ls (.int y :: zr G i :: st) v := z_putI F (c := 7) (C := RX7) (T := TX7) (N := 13) (ty := .int) tyX7 tyX7_ok nmX7 rfl uw_7 4 (by decide) (by decide +kernel) (by decide +kernel) rfl (by decide +kernel) rfl rfl hT hlink hd kk
theorem zg_7_5 {x : zCx} {G : zG} {cc : ByteArray} {nL : Nat} {own : String} {fr lo : Nat} {Q : State → Prop} {cs sl pc : Nat} {ls : List (Nat × Value)} {st : List Value} {v : zV} (F : zF x G cc nL own fr lo) {i idx : Nat} (hT : zty i 1 7) (hlink : Cond.fieldLink own idx "ContraryChairs$Row" "died" "I" ∈ zTbl) (hd : decode cc pc = .ok (.getfield idx, 3)) (kk : zJ x G nL Q cs sl (pc + 3) ls (.int (v i 5) :: st) v) : zJ x G nL Q cs sl pc ls (zr G i :: st) v := z_getI F (c := 7) (C := RX7) (T := TX7) (N := 13) rfl uw_7 5 (by decide) (by decide +kernel) (by decide +kernel) hT hlink hd kk
theorem zp_7_5 {x : zCx} {G : zG} {cc : ByteArray} {nL : Nat} {own : String} {fr lo : Nat} {Q : State → Prop} {cs sl pc : Nat} {ls : List (Nat × Value)} {st : List Value} {v : zV} (F : zF x G cc nL own fr lo) {i idx : Nat} {y : Int32} (hT : zty i 1 7) (hlink : Cond.fieldLink own idx "ContraryChairs$Row" "died" "I" ∈ zTbl) (hd : decode cc pc = .ok (.putfield idx, 3)) (kk : zJ x G nL Q cs sl (pc + 3) ls st (zup v i 5 y)) : zJ x G nL Q cs sl pc ls (.int y :: zr G i :: st) v := z_putI F (c := 7) (C := RX7) (T := TX7) (N := 13) (ty := .int) tyX7 tyX7_ok nmX7 rfl uw_7 5 (by decide) (by decide +kernel) (by decide +kernel) rfl (by decide +kernel) rfl rfl hT hlink hd kk
theorem zg_7_6 {x : zCx} {G : zG} {cc : ByteArray} {nL : Nat} {own : String} {fr lo : Nat} {Q : State → Prop} {cs sl pc : Nat} {ls : List (Nat × Value)} {st : List Value} {v : zV} (F : zF x G cc nL own fr lo) {i idx : Nat} (hT : zty i 1 7) (hlink : Cond.fieldLink own idx "ContraryChairs$Row" "asides" "I" ∈ zTbl) (hd : decode cc pc = .ok (.getfield idx, 3)) (kk : zJ x G nL Q cs sl (pc + 3) ls (.int (v i 6) :: st) v) : zJ x G nL Q cs sl pc ls (zr G i :: st) v := z_getI F (c := 7) (C := RX7) (T := TX7) (N := 13) rfl uw_7 6 (by decide) (by decide +kernel) (by decide +kernel) hT hlink hd kk
theorem zp_7_6 {x : zCx} {G : zG} {cc : ByteArray} {nL : Nat} {own : String} {fr lo : Nat} {Q : State → Prop} {cs sl pc : Nat} {ls : List (Nat × Value)} {st : List Value} {v : zV} (F : zF x G cc nL own fr lo) {i idx : Nat} {y : Int32} (hT : zty i 1 7) (hlink : Cond.fieldLink own idx "ContraryChairs$Row" "asides" "I" ∈ zTbl) (hd : decode cc pc = .ok (.putfield idx, 3)) (kk : zJ x G nL Q cs sl (pc + 3) ls st (zup v i 6 y)) : zJ x G nL Q cs sl pc ls (.int y :: zr G i :: st) v := z_putI F (c := 7) (C := RX7) (T := TX7) (N := 13) (ty := .int) tyX7 tyX7_ok nmX7 rfl uw_7 6 (by decide) (by decide +kernel) (by decide +kernel) rfl (by decide +kernel) rfl rfl hT hlink hd kk
theorem zg_7_7 {x : zCx} {G : zG} {cc : ByteArray} {nL : Nat} {own : String} {fr lo : Nat} {Q : State → Prop} {cs sl pc : Nat} {ls : List (Nat × Value)} {st : List Value} {v : zV} (F : zF x G cc nL own fr lo) {i idx : Nat} (hT : zty i 1 7) (hlink : Cond.fieldLink own idx "ContraryChairs$Row" "asideYear" "I" ∈ zTbl) (hd : decode cc pc = .ok (.getfield idx, 3)) (kk : zJ x G nL Q cs sl (pc + 3) ls (.int (v i 7) :: st) v) : zJ x G nL Q cs sl pc ls (zr G i :: st) v := z_getI F (c := 7) (C := RX7) (T := TX7) (N := 13) rfl uw_7 7 (by decide) (by decide +kernel) (by decide +kernel) hT hlink hd kk
theorem zp_7_7 {x : zCx} {G : zG} {cc : ByteArray} {nL : Nat} {own : String} {fr lo : Nat} {Q : State → Prop} {cs sl pc : Nat} {ls : List (Nat × Value)} {st : List Value} {v : zV} (F : zF x G cc nL own fr lo) {i idx : Nat} {y : Int32} (hT : zty i 1 7) (hlink : Cond.fieldLink own idx "ContraryChairs$Row" "asideYear" "I" ∈ zTbl) (hd : decode cc pc = .ok (.putfield idx, 3)) (kk : zJ x G nL Q cs sl (pc + 3) ls st (zup v i 7 y)) : zJ x G nL Q cs sl pc ls (.int y :: zr G i :: st) v := z_putI F (c := 7) (C := RX7) (T := TX7) (N := 13) (ty := .int) tyX7 tyX7_ok nmX7 rfl uw_7 7 (by decide) (by decide +kernel) (by decide +kernel) rfl (by decide +kernel) rfl rfl hT hlink hd kk
theorem zg_7_8 {x : zCx} {G : zG} {cc : ByteArray} {nL : Nat} {own : String} {fr lo : Nat} {Q : State → Prop} {cs sl pc : Nat} {ls : List (Nat × Value)} {st : List Value} {v : zV} (F : zF x G cc nL own fr lo) {i idx : Nat} (hT : zty i 1 7) (hlink : Cond.fieldLink own idx "ContraryChairs$Row" "chairs" "[I" ∈ zTbl) (hd : decode cc pc = .ok (.getfield idx, 3)) (kk : zJ x G nL Q cs sl (pc + 3) ls (zr G (zrf i 8) :: st) v) : zJ x G nL Q cs sl pc ls (zr G i :: st) v := z_getR F (c := 7) (C := RX7) (T := TX7) (N := 13) rfl uw_7 8 (by decide) (by decide +kernel) (by decide +kernel) hT hlink hd kk
theorem tc_7_8 : zchk 7 8 2 0 = true := by decide +kernel
theorem zg_7_9 {x : zCx} {G : zG} {cc : ByteArray} {nL : Nat} {own : String} {fr lo : Nat} {Q : State → Prop} {cs sl pc : Nat} {ls : List (Nat × Value)} {st : List Value} {v : zV} (F : zF x G cc nL own fr lo) {i idx : Nat} (hT : zty i 1 7) (hlink : Cond.fieldLink own idx "ContraryChairs$Row" "state" "[I" ∈ zTbl) (hd : decode cc pc = .ok (.getfield idx, 3)) (kk : zJ x G nL Q cs sl (pc + 3) ls (zr G (zrf i 9) :: st) v) : zJ x G nL Q cs sl pc ls (zr G i :: st) v := z_getR F (c := 7) (C := RX7) (T := TX7) (N := 13) rfl uw_7 9 (by decide) (by decide +kernel) (by decide +kernel) hT hlink hd kk
theorem tc_7_9 : zchk 7 9 2 0 = true := by decide +kernel
theorem zg_7_10 {x : zCx} {G : zG} {cc : ByteArray} {nL : Nat} {own : String} {fr lo : Nat} {Q : State → Prop} {cs sl pc : Nat} {ls : List (Nat × Value)} {st : List Value} {v : zV} (F : zF x G cc nL own fr lo) {i idx : Nat} (hT : zty i 1 7) (hlink : Cond.fieldLink own idx "ContraryChairs$Row" "waits" "[I" ∈ zTbl) (hd : decode cc pc = .ok (.getfield idx, 3)) (kk : zJ x G nL Q cs sl (pc + 3) ls (zr G (zrf i 10) :: st) v) : zJ x G nL Q cs sl pc ls (zr G i :: st) v := z_getR F (c := 7) (C := RX7) (T := TX7) (N := 13) rfl uw_7 10 (by decide) (by decide +kernel) (by decide +kernel) hT hlink hd kk
theorem tc_7_10 : zchk 7 10 2 0 = true := by decide +kernel
theorem zg_7_11 {x : zCx} {G : zG} {cc : ByteArray} {nL : Nat} {own : String} {fr lo : Nat} {Q : State → Prop} {cs sl pc : Nat} {ls : List (Nat × Value)} {st : List Value} {v : zV} (F : zF x G cc nL own fr lo) {i idx : Nat} (hT : zty i 1 7) (hlink : Cond.fieldLink own idx "ContraryChairs$Row" "since" "[I" ∈ zTbl) (hd : decode cc pc = .ok (.getfield idx, 3)) (kk : zJ x G nL Q cs sl (pc + 3) ls (zr G (zrf i 11) :: st) v) : zJ x G nL Q cs sl pc ls (zr G i :: st) v := z_getR F (c := 7) (C := RX7) (T := TX7) (N := 13) rfl uw_7 11 (by decide) (by decide +kernel) (by decide +kernel) hT hlink hd kk
theorem tc_7_11 : zchk 7 11 2 0 = true := by decide +kernel
theorem zg_7_12 {x : zCx} {G : zG} {cc : ByteArray} {nL : Nat} {own : String} {fr lo : Nat} {Q : State → Prop} {cs sl pc : Nat} {ls : List (Nat × Value)} {st : List Value} {v : zV} (F : zF x G cc nL own fr lo) {i idx : Nat} (hT : zty i 1 7) (hlink : Cond.fieldLink own idx "ContraryChairs$Row" "aside" "[I" ∈ zTbl) (hd : decode cc pc = .ok (.getfield idx, 3)) (kk : zJ x G nL Q cs sl (pc + 3) ls (zr G (zrf i 12) :: st) v) : zJ x G nL Q cs sl pc ls (zr G i :: st) v := z_getR F (c := 7) (C := RX7) (T := TX7) (N := 13) rfl uw_7 12 (by decide) (by decide +kernel) (by decide +kernel) hT hlink hd kk
theorem tc_7_12 : zchk 7 12 2 0 = true := by decide +kernel
theorem uw_8 : ∀ w ∈ u_ws RX8 TX8 6, w ∈ zTbl := by decide +kernel
theorem zg_8_0 {x : zCx} {G : zG} {cc : ByteArray} {nL : Nat} {own : String} {fr lo : Nat} {Q : State → Prop} {cs sl pc : Nat} {ls : List (Nat × Value)} {st : List Value} {v : zV} (F : zF x G cc nL own fr lo) {i idx : Nat} (hT : zty i 1 8) (hlink : Cond.fieldLink own idx "ContraryChairs$Tape" "bytes" "[B" ∈ zTbl) (hd : decode cc pc = .ok (.getfield idx, 3)) (kk : zJ x G nL Q cs sl (pc + 3) ls (zr G (zrf i 0) :: st) v) : zJ x G nL Q cs sl pc ls (zr G i :: st) v := z_getR F (c := 8) (C := RX8) (T := TX8) (N := 6) rfl uw_8 0 (by decide) (by decide +kernel) (by decide +kernel) hT hlink hd kk
theorem tc_8_0 : zchk 8 0 2 1 = true := by decide +kernel
theorem zg_8_1 {x : zCx} {G : zG} {cc : ByteArray} {nL : Nat} {own : String} {fr lo : Nat} {Q : State → Prop} {cs sl pc : Nat} {ls : List (Nat × Value)} {st : List Value} {v : zV} (F : zF x G cc nL own fr lo) {i idx : Nat} (hT : zty i 1 8) (hlink : Cond.fieldLink own idx "ContraryChairs$Tape" "size" "I" ∈ zTbl) (hd : decode cc pc = .ok (.getfield idx, 3)) (kk : zJ x G nL Q cs sl (pc + 3) ls (.int (v i 1) :: st) v) : zJ x G nL Q cs sl pc ls (zr G i :: st) v := z_getI F (c := 8) (C := RX8) (T := TX8) (N := 6) rfl uw_8 1 (by decide) (by decide +kernel) (by decide +kernel) hT hlink hd kk
theorem zp_8_1 {x : zCx} {G : zG} {cc : ByteArray} {nL : Nat} {own : String} {fr lo : Nat} {Q : State → Prop} {cs sl pc : Nat} {ls : List (Nat × Value)} {st : List Value} {v : zV} (F : zF x G cc nL own fr lo) {i idx : Nat} {y : Int32} (hT : zty i 1 8) (hlink : Cond.fieldLink own idx "ContraryChairs$Tape" "size" "I" ∈ zTbl) (hd : decode cc pc = .ok (.putfield idx, 3)) (kk : zJ x G nL Q cs sl (pc + 3) ls st (zup v i 1 y)) : zJ x G nL Q cs sl pc ls (.int y :: zr G i :: st) v := z_putI F (c := 8) (C := RX8) (T := TX8) (N := 6) (ty := .int) tyX8 tyX8_ok nmX8 rfl uw_8 1 (by decide) (by decide +kernel) (by decide +kernel) rfl (by decide +kernel) rfl rfl hT hlink hd kk
theorem zg_8_2 {x : zCx} {G : zG} {cc : ByteArray} {nL : Nat} {own : String} {fr lo : Nat} {Q : State → Prop} {cs sl pc : Nat} {ls : List (Nat × Value)} {st : List Value} {v : zV} (F : zF x G cc nL own fr lo) {i idx : Nat} (hT : zty i 1 8) (hlink : Cond.fieldLink own idx "ContraryChairs$Tape" "fault" "I" ∈ zTbl) (hd : decode cc pc = .ok (.getfield idx, 3)) (kk : zJ x G nL Q cs sl (pc + 3) ls (.int (v i 2) :: st) v) : zJ x G nL Q cs sl pc ls (zr G i :: st) v := z_getI F (c := 8) (C := RX8) (T := TX8) (N := 6) rfl uw_8 2 (by decide) (by decide +kernel) (by decide +kernel) hT hlink hd kk
theorem zp_8_2 {x : zCx} {G : zG} {cc : ByteArray} {nL : Nat} {own : String} {fr lo : Nat} {Q : State → Prop} {cs sl pc : Nat} {ls : List (Nat × Value)} {st : List Value} {v : zV} (F : zF x G cc nL own fr lo) {i idx : Nat} {y : Int32} (hT : zty i 1 8) (hlink : Cond.fieldLink own idx "ContraryChairs$Tape" "fault" "I" ∈ zTbl) (hd : decode cc pc = .ok (.putfield idx, 3)) (kk : zJ x G nL Q cs sl (pc + 3) ls st (zup v i 2 y)) : zJ x G nL Q cs sl pc ls (.int y :: zr G i :: st) v := z_putI F (c := 8) (C := RX8) (T := TX8) (N := 6) (ty := .int) tyX8 tyX8_ok nmX8 rfl uw_8 2 (by decide) (by decide +kernel) (by decide +kernel) rfl (by decide +kernel) rfl rfl hT hlink hd kk
theorem zg_8_3 {x : zCx} {G : zG} {cc : ByteArray} {nL : Nat} {own : String} {fr lo : Nat} {Q : State → Prop} {cs sl pc : Nat} {ls : List (Nat × Value)} {st : List Value} {v : zV} (F : zF x G cc nL own fr lo) {i idx : Nat} (hT : zty i 1 8) (hlink : Cond.fieldLink own idx "ContraryChairs$Tape" "place" "I" ∈ zTbl) (hd : decode cc pc = .ok (.getfield idx, 3)) (kk : zJ x G nL Q cs sl (pc + 3) ls (.int (v i 3) :: st) v) : zJ x G nL Q cs sl pc ls (zr G i :: st) v := z_getI F (c := 8) (C := RX8) (T := TX8) (N := 6) rfl uw_8 3 (by decide) (by decide +kernel) (by decide +kernel) hT hlink hd kk
theorem zp_8_3 {x : zCx} {G : zG} {cc : ByteArray} {nL : Nat} {own : String} {fr lo : Nat} {Q : State → Prop} {cs sl pc : Nat} {ls : List (Nat × Value)} {st : List Value} {v : zV} (F : zF x G cc nL own fr lo) {i idx : Nat} {y : Int32} (hT : zty i 1 8) (hlink : Cond.fieldLink own idx "ContraryChairs$Tape" "place" "I" ∈ zTbl) (hd : decode cc pc = .ok (.putfield idx, 3)) (kk : zJ x G nL Q cs sl (pc + 3) ls st (zup v i 3 y)) : zJ x G nL Q cs sl pc ls (.int y :: zr G i :: st) v := z_putI F (c := 8) (C := RX8) (T := TX8) (N := 6) (ty := .int) tyX8 tyX8_ok nmX8 rfl uw_8 3 (by decide) (by decide +kernel) (by decide +kernel) rfl (by decide +kernel) rfl rfl hT hlink hd kk
theorem zg_8_4 {x : zCx} {G : zG} {cc : ByteArray} {nL : Nat} {own : String} {fr lo : Nat} {Q : State → Prop} {cs sl pc : Nat} {ls : List (Nat × Value)} {st : List Value} {v : zV} (F : zF x G cc nL own fr lo) {i idx : Nat} (hT : zty i 1 8) (hlink : Cond.fieldLink own idx "ContraryChairs$Tape" "end" "I" ∈ zTbl) (hd : decode cc pc = .ok (.getfield idx, 3)) (kk : zJ x G nL Q cs sl (pc + 3) ls (.int (v i 4) :: st) v) : zJ x G nL Q cs sl pc ls (zr G i :: st) v := z_getI F (c := 8) (C := RX8) (T := TX8) (N := 6) rfl uw_8 4 (by decide) (by decide +kernel) (by decide +kernel) hT hlink hd kk
theorem zp_8_4 {x : zCx} {G : zG} {cc : ByteArray} {nL : Nat} {own : String} {fr lo : Nat} {Q : State → Prop} {cs sl pc : Nat} {ls : List (Nat × Value)} {st : List Value} {v : zV} (F : zF x G cc nL own fr lo) {i idx : Nat} {y : Int32} (hT : zty i 1 8) (hlink : Cond.fieldLink own idx "ContraryChairs$Tape" "end" "I" ∈ zTbl) (hd : decode cc pc = .ok (.putfield idx, 3)) (kk : zJ x G nL Q cs sl (pc + 3) ls st (zup v i 4 y)) : zJ x G nL Q cs sl pc ls (.int y :: zr G i :: st) v := z_putI F (c := 8) (C := RX8) (T := TX8) (N := 6) (ty := .int) tyX8 tyX8_ok nmX8 rfl uw_8 4 (by decide) (by decide +kernel) (by decide +kernel) rfl (by decide +kernel) rfl rfl hT hlink hd kk
theorem zg_8_5 {x : zCx} {G : zG} {cc : ByteArray} {nL : Nat} {own : String} {fr lo : Nat} {Q : State → Prop} {cs sl pc : Nat} {ls : List (Nat × Value)} {st : List Value} {v : zV} (F : zF x G cc nL own fr lo) {i idx : Nat} (hT : zty i 1 8) (hlink : Cond.fieldLink own idx "ContraryChairs$Tape" "at" "I" ∈ zTbl) (hd : decode cc pc = .ok (.getfield idx, 3)) (kk : zJ x G nL Q cs sl (pc + 3) ls (.int (v i 5) :: st) v) : zJ x G nL Q cs sl pc ls (zr G i :: st) v := z_getI F (c := 8) (C := RX8) (T := TX8) (N := 6) rfl uw_8 5 (by decide) (by decide +kernel) (by decide +kernel) hT hlink hd kk
theorem zp_8_5 {x : zCx} {G : zG} {cc : ByteArray} {nL : Nat} {own : String} {fr lo : Nat} {Q : State → Prop} {cs sl pc : Nat} {ls : List (Nat × Value)} {st : List Value} {v : zV} (F : zF x G cc nL own fr lo) {i idx : Nat} {y : Int32} (hT : zty i 1 8) (hlink : Cond.fieldLink own idx "ContraryChairs$Tape" "at" "I" ∈ zTbl) (hd : decode cc pc = .ok (.putfield idx, 3)) (kk : zJ x G nL Q cs sl (pc + 3) ls st (zup v i 5 y)) : zJ x G nL Q cs sl pc ls (.int y :: zr G i :: st) v := z_putI F (c := 8) (C := RX8) (T := TX8) (N := 6) (ty := .int) tyX8 tyX8_ok nmX8 rfl uw_8 5 (by decide) (by decide +kernel) (by decide +kernel) rfl (by decide +kernel) rfl rfl hT hlink hd kk
theorem uw_9 : ∀ w ∈ u_ws RX9 TX9 17, w ∈ zTbl := by decide +kernel
theorem zg_9_0 {x : zCx} {G : zG} {cc : ByteArray} {nL : Nat} {own : String} {fr lo : Nat} {Q : State → Prop} {cs sl pc : Nat} {ls : List (Nat × Value)} {st : List Value} {v : zV} (F : zF x G cc nL own fr lo) {i idx : Nat} (hT : zty i 1 9) (hlink : Cond.fieldLink own idx "ContraryChairs" "tape" "LContraryChairs$Tape;" ∈ zTbl) (hd : decode cc pc = .ok (.getfield idx, 3)) (kk : zJ x G nL Q cs sl (pc + 3) ls (zr G (zrf i 0) :: st) v) : zJ x G nL Q cs sl pc ls (zr G i :: st) v := z_getR F (c := 9) (C := RX9) (T := TX9) (N := 17) rfl uw_9 0 (by decide) (by decide +kernel) (by decide +kernel) hT hlink hd kk
theorem tc_9_0 : zchk 9 0 1 8 = true := by decide +kernel
theorem zg_9_1 {x : zCx} {G : zG} {cc : ByteArray} {nL : Nat} {own : String} {fr lo : Nat} {Q : State → Prop} {cs sl pc : Nat} {ls : List (Nat × Value)} {st : List Value} {v : zV} (F : zF x G cc nL own fr lo) {i idx : Nat} (hT : zty i 1 9) (hlink : Cond.fieldLink own idx "ContraryChairs" "academy" "LContraryChairs$Academy;" ∈ zTbl) (hd : decode cc pc = .ok (.getfield idx, 3)) (kk : zJ x G nL Q cs sl (pc + 3) ls (zr G (zrf i 1) :: st) v) : zJ x G nL Q cs sl pc ls (zr G i :: st) v := z_getR F (c := 9) (C := RX9) (T := TX9) (N := 17) rfl uw_9 1 (by decide) (by decide +kernel) (by decide +kernel) hT hlink hd kk
theorem tc_9_1 : zchk 9 1 1 0 = true := by decide +kernel
theorem zg_9_2 {x : zCx} {G : zG} {cc : ByteArray} {nL : Nat} {own : String} {fr lo : Nat} {Q : State → Prop} {cs sl pc : Nat} {ls : List (Nat × Value)} {st : List Value} {v : zV} (F : zF x G cc nL own fr lo) {i idx : Nat} (hT : zty i 1 9) (hlink : Cond.fieldLink own idx "ContraryChairs" "draftAcademy" "LContraryChairs$Academy;" ∈ zTbl) (hd : decode cc pc = .ok (.getfield idx, 3)) (kk : zJ x G nL Q cs sl (pc + 3) ls (zr G (zrf i 2) :: st) v) : zJ x G nL Q cs sl pc ls (zr G i :: st) v := z_getR F (c := 9) (C := RX9) (T := TX9) (N := 17) rfl uw_9 2 (by decide) (by decide +kernel) (by decide +kernel) hT hlink hd kk
theorem tc_9_2 : zchk 9 2 1 0 = true := by decide +kernel
theorem zg_9_3 {x : zCx} {G : zG} {cc : ByteArray} {nL : Nat} {own : String} {fr lo : Nat} {Q : State → Prop} {cs sl pc : Nat} {ls : List (Nat × Value)} {st : List Value} {v : zV} (F : zF x G cc nL own fr lo) {i idx : Nat} (hT : zty i 1 9) (hlink : Cond.fieldLink own idx "ContraryChairs" "law" "LContraryChairs$Law;" ∈ zTbl) (hd : decode cc pc = .ok (.getfield idx, 3)) (kk : zJ x G nL Q cs sl (pc + 3) ls (zr G (zrf i 3) :: st) v) : zJ x G nL Q cs sl pc ls (zr G i :: st) v := z_getR F (c := 9) (C := RX9) (T := TX9) (N := 17) rfl uw_9 3 (by decide) (by decide +kernel) (by decide +kernel) hT hlink hd kk
theorem tc_9_3 : zchk 9 3 1 5 = true := by decide +kernel
theorem zg_9_4 {x : zCx} {G : zG} {cc : ByteArray} {nL : Nat} {own : String} {fr lo : Nat} {Q : State → Prop} {cs sl pc : Nat} {ls : List (Nat × Value)} {st : List Value} {v : zV} (F : zF x G cc nL own fr lo) {i idx : Nat} (hT : zty i 1 9) (hlink : Cond.fieldLink own idx "ContraryChairs" "draftLaw" "LContraryChairs$Law;" ∈ zTbl) (hd : decode cc pc = .ok (.getfield idx, 3)) (kk : zJ x G nL Q cs sl (pc + 3) ls (zr G (zrf i 4) :: st) v) : zJ x G nL Q cs sl pc ls (zr G i :: st) v := z_getR F (c := 9) (C := RX9) (T := TX9) (N := 17) rfl uw_9 4 (by decide) (by decide +kernel) (by decide +kernel) hT hlink hd kk
theorem tc_9_4 : zchk 9 4 1 5 = true := by decide +kernel
theorem zg_9_5 {x : zCx} {G : zG} {cc : ByteArray} {nL : Nat} {own : String} {fr lo : Nat} {Q : State → Prop} {cs sl pc : Nat} {ls : List (Nat × Value)} {st : List Value} {v : zV} (F : zF x G cc nL own fr lo) {i idx : Nat} (hT : zty i 1 9) (hlink : Cond.fieldLink own idx "ContraryChairs" "book" "LContraryChairs$Book;" ∈ zTbl) (hd : decode cc pc = .ok (.getfield idx, 3)) (kk : zJ x G nL Q cs sl (pc + 3) ls (zr G (zrf i 5) :: st) v) : zJ x G nL Q cs sl pc ls (zr G i :: st) v := z_getR F (c := 9) (C := RX9) (T := TX9) (N := 17) rfl uw_9 5 (by decide) (by decide +kernel) (by decide +kernel) hT hlink hd kk
theorem tc_9_5 : zchk 9 5 1 1 = true := by decide +kernel
theorem zg_9_6 {x : zCx} {G : zG} {cc : ByteArray} {nL : Nat} {own : String} {fr lo : Nat} {Q : State → Prop} {cs sl pc : Nat} {ls : List (Nat × Value)} {st : List Value} {v : zV} (F : zF x G cc nL own fr lo) {i idx : Nat} (hT : zty i 1 9) (hlink : Cond.fieldLink own idx "ContraryChairs" "draftBook" "LContraryChairs$Book;" ∈ zTbl) (hd : decode cc pc = .ok (.getfield idx, 3)) (kk : zJ x G nL Q cs sl (pc + 3) ls (zr G (zrf i 6) :: st) v) : zJ x G nL Q cs sl pc ls (zr G i :: st) v := z_getR F (c := 9) (C := RX9) (T := TX9) (N := 17) rfl uw_9 6 (by decide) (by decide +kernel) (by decide +kernel) hT hlink hd kk
theorem tc_9_6 : zchk 9 6 1 1 = true := by decide +kernel
theorem zg_9_7 {x : zCx} {G : zG} {cc : ByteArray} {nL : Nat} {own : String} {fr lo : Nat} {Q : State → Prop} {cs sl pc : Nat} {ls : List (Nat × Value)} {st : List Value} {v : zV} (F : zF x G cc nL own fr lo) {i idx : Nat} (hT : zty i 1 9) (hlink : Cond.fieldLink own idx "ContraryChairs" "now" "LContraryChairs$Row;" ∈ zTbl) (hd : decode cc pc = .ok (.getfield idx, 3)) (kk : zJ x G nL Q cs sl (pc + 3) ls (zr G (zrf i 7) :: st) v) : zJ x G nL Q cs sl pc ls (zr G i :: st) v := z_getR F (c := 9) (C := RX9) (T := TX9) (N := 17) rfl uw_9 7 (by decide) (by decide +kernel) (by decide +kernel) hT hlink hd kk
theorem tc_9_7 : zchk 9 7 1 7 = true := by decide +kernel
theorem zg_9_8 {x : zCx} {G : zG} {cc : ByteArray} {nL : Nat} {own : String} {fr lo : Nat} {Q : State → Prop} {cs sl pc : Nat} {ls : List (Nat × Value)} {st : List Value} {v : zV} (F : zF x G cc nL own fr lo) {i idx : Nat} (hT : zty i 1 9) (hlink : Cond.fieldLink own idx "ContraryChairs" "undoEnd" "LContraryChairs$Row;" ∈ zTbl) (hd : decode cc pc = .ok (.getfield idx, 3)) (kk : zJ x G nL Q cs sl (pc + 3) ls (zr G (zrf i 8) :: st) v) : zJ x G nL Q cs sl pc ls (zr G i :: st) v := z_getR F (c := 9) (C := RX9) (T := TX9) (N := 17) rfl uw_9 8 (by decide) (by decide +kernel) (by decide +kernel) hT hlink hd kk
theorem tc_9_8 : zchk 9 8 1 7 = true := by decide +kernel
theorem zg_9_9 {x : zCx} {G : zG} {cc : ByteArray} {nL : Nat} {own : String} {fr lo : Nat} {Q : State → Prop} {cs sl pc : Nat} {ls : List (Nat × Value)} {st : List Value} {v : zV} (F : zF x G cc nL own fr lo) {i idx : Nat} (hT : zty i 1 9) (hlink : Cond.fieldLink own idx "ContraryChairs" "images" "[LContraryChairs$Row;" ∈ zTbl) (hd : decode cc pc = .ok (.getfield idx, 3)) (kk : zJ x G nL Q cs sl (pc + 3) ls (zr G (zrf i 9) :: st) v) : zJ x G nL Q cs sl pc ls (zr G i :: st) v := z_getR F (c := 9) (C := RX9) (T := TX9) (N := 17) rfl uw_9 9 (by decide) (by decide +kernel) (by decide +kernel) hT hlink hd kk
theorem tc_9_9 : zchk 9 9 2 4 = true := by decide +kernel
theorem zg_9_10 {x : zCx} {G : zG} {cc : ByteArray} {nL : Nat} {own : String} {fr lo : Nat} {Q : State → Prop} {cs sl pc : Nat} {ls : List (Nat × Value)} {st : List Value} {v : zV} (F : zF x G cc nL own fr lo) {i idx : Nat} (hT : zty i 1 9) (hlink : Cond.fieldLink own idx "ContraryChairs" "imageCount" "I" ∈ zTbl) (hd : decode cc pc = .ok (.getfield idx, 3)) (kk : zJ x G nL Q cs sl (pc + 3) ls (.int (v i 10) :: st) v) : zJ x G nL Q cs sl pc ls (zr G i :: st) v := z_getI F (c := 9) (C := RX9) (T := TX9) (N := 17) rfl uw_9 10 (by decide) (by decide +kernel) (by decide +kernel) hT hlink hd kk
theorem zp_9_10 {x : zCx} {G : zG} {cc : ByteArray} {nL : Nat} {own : String} {fr lo : Nat} {Q : State → Prop} {cs sl pc : Nat} {ls : List (Nat × Value)} {st : List Value} {v : zV} (F : zF x G cc nL own fr lo) {i idx : Nat} {y : Int32} (hT : zty i 1 9) (hlink : Cond.fieldLink own idx "ContraryChairs" "imageCount" "I" ∈ zTbl) (hd : decode cc pc = .ok (.putfield idx, 3)) (kk : zJ x G nL Q cs sl (pc + 3) ls st (zup v i 10 y)) : zJ x G nL Q cs sl pc ls (.int y :: zr G i :: st) v := z_putI F (c := 9) (C := RX9) (T := TX9) (N := 17) (ty := .int) tyX9 tyX9_ok nmX9 rfl uw_9 10 (by decide) (by decide +kernel) (by decide +kernel) rfl (by decide +kernel) rfl rfl hT hlink hd kk
theorem zg_9_11 {x : zCx} {G : zG} {cc : ByteArray} {nL : Nat} {own : String} {fr lo : Nat} {Q : State → Prop} {cs sl pc : Nat} {ls : List (Nat × Value)} {st : List Value} {v : zV} (F : zF x G cc nL own fr lo) {i idx : Nat} (hT : zty i 1 9) (hlink : Cond.fieldLink own idx "ContraryChairs" "calendar" "LContraryChairs$Calendar;" ∈ zTbl) (hd : decode cc pc = .ok (.getfield idx, 3)) (kk : zJ x G nL Q cs sl (pc + 3) ls (zr G (zrf i 11) :: st) v) : zJ x G nL Q cs sl pc ls (zr G i :: st) v := z_getR F (c := 9) (C := RX9) (T := TX9) (N := 17) rfl uw_9 11 (by decide) (by decide +kernel) (by decide +kernel) hT hlink hd kk
theorem tc_9_11 : zchk 9 11 1 2 = true := by decide +kernel
theorem zg_9_12 {x : zCx} {G : zG} {cc : ByteArray} {nL : Nat} {own : String} {fr lo : Nat} {Q : State → Prop} {cs sl pc : Nat} {ls : List (Nat × Value)} {st : List Value} {v : zV} (F : zF x G cc nL own fr lo) {i idx : Nat} (hT : zty i 1 9) (hlink : Cond.fieldLink own idx "ContraryChairs" "foresight" "LContraryChairs$Foresight;" ∈ zTbl) (hd : decode cc pc = .ok (.getfield idx, 3)) (kk : zJ x G nL Q cs sl (pc + 3) ls (zr G (zrf i 12) :: st) v) : zJ x G nL Q cs sl pc ls (zr G i :: st) v := z_getR F (c := 9) (C := RX9) (T := TX9) (N := 17) rfl uw_9 12 (by decide) (by decide +kernel) (by decide +kernel) hT hlink hd kk
theorem tc_9_12 : zchk 9 12 1 4 = true := by decide +kernel
theorem zg_9_13 {x : zCx} {G : zG} {cc : ByteArray} {nL : Nat} {own : String} {fr lo : Nat} {Q : State → Prop} {cs sl pc : Nat} {ls : List (Nat × Value)} {st : List Value} {v : zV} (F : zF x G cc nL own fr lo) {i idx : Nat} (hT : zty i 1 9) (hlink : Cond.fieldLink own idx "ContraryChairs" "records" "LContraryChairs$Records;" ∈ zTbl) (hd : decode cc pc = .ok (.getfield idx, 3)) (kk : zJ x G nL Q cs sl (pc + 3) ls (zr G (zrf i 13) :: st) v) : zJ x G nL Q cs sl pc ls (zr G i :: st) v := z_getR F (c := 9) (C := RX9) (T := TX9) (N := 17) rfl uw_9 13 (by decide) (by decide +kernel) (by decide +kernel) hT hlink hd kk
theorem tc_9_13 : zchk 9 13 1 6 = true := by decide +kernel
theorem zg_9_14 {x : zCx} {G : zG} {cc : ByteArray} {nL : Nat} {own : String} {fr lo : Nat} {Q : State → Prop} {cs sl pc : Nat} {ls : List (Nat × Value)} {st : List Value} {v : zV} (F : zF x G cc nL own fr lo) {i idx : Nat} (hT : zty i 1 9) (hlink : Cond.fieldLink own idx "ContraryChairs" "company" "LContraryChairs$Company;" ∈ zTbl) (hd : decode cc pc = .ok (.getfield idx, 3)) (kk : zJ x G nL Q cs sl (pc + 3) ls (zr G (zrf i 14) :: st) v) : zJ x G nL Q cs sl pc ls (zr G i :: st) v := z_getR F (c := 9) (C := RX9) (T := TX9) (N := 17) rfl uw_9 14 (by decide) (by decide +kernel) (by decide +kernel) hT hlink hd kk
theorem tc_9_14 : zchk 9 14 1 3 = true := by decide +kernel
theorem zg_9_15 {x : zCx} {G : zG} {cc : ByteArray} {nL : Nat} {own : String} {fr lo : Nat} {Q : State → Prop} {cs sl pc : Nat} {ls : List (Nat × Value)} {st : List Value} {v : zV} (F : zF x G cc nL own fr lo) {i idx : Nat} (hT : zty i 1 9) (hlink : Cond.fieldLink own idx "ContraryChairs" "unknownCalls" "I" ∈ zTbl) (hd : decode cc pc = .ok (.getfield idx, 3)) (kk : zJ x G nL Q cs sl (pc + 3) ls (.int (v i 15) :: st) v) : zJ x G nL Q cs sl pc ls (zr G i :: st) v := z_getI F (c := 9) (C := RX9) (T := TX9) (N := 17) rfl uw_9 15 (by decide) (by decide +kernel) (by decide +kernel) hT hlink hd kk
theorem zp_9_15 {x : zCx} {G : zG} {cc : ByteArray} {nL : Nat} {own : String} {fr lo : Nat} {Q : State → Prop} {cs sl pc : Nat} {ls : List (Nat × Value)} {st : List Value} {v : zV} (F : zF x G cc nL own fr lo) {i idx : Nat} {y : Int32} (hT : zty i 1 9) (hlink : Cond.fieldLink own idx "ContraryChairs" "unknownCalls" "I" ∈ zTbl) (hd : decode cc pc = .ok (.putfield idx, 3)) (kk : zJ x G nL Q cs sl (pc + 3) ls st (zup v i 15 y)) : zJ x G nL Q cs sl pc ls (.int y :: zr G i :: st) v := z_putI F (c := 9) (C := RX9) (T := TX9) (N := 17) (ty := .int) tyX9 tyX9_ok nmX9 rfl uw_9 15 (by decide) (by decide +kernel) (by decide +kernel) rfl (by decide +kernel) rfl rfl hT hlink hd kk
theorem zg_9_16 {x : zCx} {G : zG} {cc : ByteArray} {nL : Nat} {own : String} {fr lo : Nat} {Q : State → Prop} {cs sl pc : Nat} {ls : List (Nat × Value)} {st : List Value} {v : zV} (F : zF x G cc nL own fr lo) {i idx : Nat} (hT : zty i 1 9) (hlink : Cond.fieldLink own idx "ContraryChairs" "unfitCalls" "I" ∈ zTbl) (hd : decode cc pc = .ok (.getfield idx, 3)) (kk : zJ x G nL Q cs sl (pc + 3) ls (.int (v i 16) :: st) v) : zJ x G nL Q cs sl pc ls (zr G i :: st) v := z_getI F (c := 9) (C := RX9) (T := TX9) (N := 17) rfl uw_9 16 (by decide) (by decide +kernel) (by decide +kernel) hT hlink hd kk
theorem zp_9_16 {x : zCx} {G : zG} {cc : ByteArray} {nL : Nat} {own : String} {fr lo : Nat} {Q : State → Prop} {cs sl pc : Nat} {ls : List (Nat × Value)} {st : List Value} {v : zV} (F : zF x G cc nL own fr lo) {i idx : Nat} {y : Int32} (hT : zty i 1 9) (hlink : Cond.fieldLink own idx "ContraryChairs" "unfitCalls" "I" ∈ zTbl) (hd : decode cc pc = .ok (.putfield idx, 3)) (kk : zJ x G nL Q cs sl (pc + 3) ls st (zup v i 16 y)) : zJ x G nL Q cs sl pc ls (.int y :: zr G i :: st) v := z_putI F (c := 9) (C := RX9) (T := TX9) (N := 17) (ty := .int) tyX9 tyX9_ok nmX9 rfl uw_9 16 (by decide) (by decide +kernel) (by decide +kernel) rfl (by decide +kernel) rfl rfl hT hlink hd kk
theorem tcA_3 : zchkA 3 2 0 = true := by decide +kernel
theorem tcA_4 : zchkA 4 1 7 = true := by decide +kernel

