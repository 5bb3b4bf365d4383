/-- 'arrays of arrays of t are known', as a word of its own (the printed names use it and do not print it) -/
def va_AOA (t : FieldType) (U : State) : Prop := (Cond.arrayOver (.array t)).before #[] U = true
theorem va_AOA.use {t : FieldType} {A : Array Value} {U : State} (h : va_AOA t U) : (Cond.arrayOver (.array t)).before A U = true := h
/-- the words that stay good on the way into a call: all of them, for every method -/
def GW : List Cond := lw_tbl.filter goodWord
theorem GW_in {w : Cond} (h : w ∈ GW) : w ∈ lw_tbl := (List.mem_filter.mp h).1
theorem GW_good {w : Cond} (h : w ∈ GW) : (w.onTables && w.keeps) = true ∨ ∃ ty, w = .arrayClass ty := good_of_word (List.mem_filter.mp h).2
theorem GW_of {w : Cond} (h : w ∈ lw_tbl) (g : goodWord w = true) : w ∈ GW := List.mem_filter.mpr ⟨h, g⟩
theorem tb0 {w : Cond} {i : Nat} (h : (k2_sels lw_privs)[i]? = some w) : w ∈ lw_tbl := List.mem_append_left _ (List.mem_of_getElem? h)
theorem tb1 {w : Cond} {i : Nat} (h : tables_1_1[i]? = some w) : w ∈ lw_tbl := List.mem_append_right _ (List.mem_append_left _ (List.mem_of_getElem? h))
theorem tb2 {w : Cond} {i : Nat} (h : tables_1_2[i]? = some w) : w ∈ lw_tbl := List.mem_append_right _ (List.mem_append_right _ (List.mem_append_left _ (List.mem_of_getElem? h)))
theorem tb3 {w : Cond} {i : Nat} (h : tables_1_3[i]? = some w) : w ∈ lw_tbl := List.mem_append_right _ (List.mem_append_right _ (List.mem_append_right _ (List.mem_append_left _ (List.mem_of_getElem? h))))
theorem tb4 {w : Cond} {i : Nat} (h : tables_1_4[i]? = some w) : w ∈ lw_tbl := List.mem_append_right _ (List.mem_append_right _ (List.mem_append_right _ (List.mem_append_right _ (List.mem_append_left _ (List.mem_of_getElem? h)))))
theorem tb5 {w : Cond} {i : Nat} (h : tables_1_5[i]? = some w) : w ∈ lw_tbl := List.mem_append_right _ (List.mem_append_right _ (List.mem_append_right _ (List.mem_append_right _ (List.mem_append_right _ (List.mem_of_getElem? h)))))
theorem gN_L : Cond.initialized RL ∈ GW := GW_of (tb1 (i := 0) rfl) rfl
theorem gN_X8 : Cond.initialized RX8 ∈ GW := GW_of (tb1 (i := 1) rfl) rfl
theorem gN_X0 : Cond.initialized RX0 ∈ GW := GW_of (tb1 (i := 2) rfl) rfl
theorem gN_X4 : Cond.initialized RX4 ∈ GW := GW_of (tb1 (i := 3) rfl) rfl
theorem gN_X1 : Cond.initialized RX1 ∈ GW := GW_of (tb1 (i := 4) rfl) rfl
theorem gN_X6 : Cond.initialized RX6 ∈ GW := GW_of (tb1 (i := 5) rfl) rfl
theorem gN_X5 : Cond.initialized RX5 ∈ GW := GW_of (tb1 (i := 6) rfl) rfl
theorem gN_X7 : Cond.initialized RX7 ∈ GW := GW_of (tb1 (i := 7) rfl) rfl
theorem gN_X2 : Cond.initialized RX2 ∈ GW := GW_of (tb1 (i := 8) rfl) rfl
theorem gN_X3 : Cond.initialized RX3 ∈ GW := GW_of (tb1 (i := 9) rfl) rfl
theorem gN_X9 : Cond.initialized RX9 ∈ GW := GW_of (tb1 (i := 10) rfl) rfl
theorem gN_J9 : Cond.initialized RJ9 ∈ GW := GW_of (tb1 (i := 11) rfl) rfl
theorem gN_J6 : Cond.initialized RJ6 ∈ GW := GW_of (tb1 (i := 12) rfl) rfl
theorem gN_J10 : Cond.initialized RJ10 ∈ GW := GW_of (tb1 (i := 13) rfl) rfl
theorem gL_L_7 : Cond.classLink RL 7 RX8 ∈ GW := GW_of (tb1 (i := 14) rfl) rfl
theorem gT_X8 : Cond.instantiable RX8 14 ∈ GW := GW_of (tb1 (i := 15) rfl) rfl
theorem gM_L_9 : Cond.methodLink RL 9 yX8_init ∈ GW := GW_of (tb1 (i := 16) rfl) rfl
theorem gI_X8_init : Cond.instanceMethod yX8_init ∈ GW := GW_of (tb1 (i := 17) rfl) rfl
theorem gC_X8_init : Cond.code yX8_init cX8_init 1 none ∈ GW := GW_of (tb1 (i := 18) rfl) rfl
theorem gM_X8_1 : Cond.methodLink RX8 1 objectInit ∈ GW := GW_of (tb1 (i := 19) rfl) rfl
theorem gI_objectInit : Cond.instanceMethod objectInit ∈ GW := GW_of (tb1 (i := 20) rfl) rfl
theorem gC_objectInit : Cond.code objectInit ⟨#[0xb1]⟩ 1 none ∈ GW := GW_of (tb1 (i := 21) rfl) rfl
theorem gL_X8_7 : Cond.classLink RX8 7 RX0 ∈ GW := GW_of (tb1 (i := 22) rfl) rfl
theorem gT_X0 : Cond.instantiable RX0 8 ∈ GW := GW_of (tb1 (i := 23) rfl) rfl
theorem nM_X8_9_l : Cond.methodLinkNest RX8 9 yX0_init "MarginBooks" ∈ lw_tbl := tb1 (i := 24) rfl
theorem gI_X0_init : Cond.instanceMethod yX0_init ∈ GW := GW_of (tb1 (i := 25) rfl) rfl
theorem gC_X0_init : Cond.code yX0_init cX0_init 1 none ∈ GW := GW_of (tb1 (i := 26) rfl) rfl
theorem gM_X0_3 : Cond.methodLink RX0 3 objectInit ∈ GW := GW_of (tb1 (i := 27) rfl) rfl
theorem gF_X0_9 : Cond.fieldLink RX0 9 "MarginBooks$House" "opinions" "I" ∈ GW := GW_of (tb1 (i := 28) rfl) rfl
theorem nF_X4_66_l : Cond.fieldLinkNest RX4 66 "MarginBooks$House" "opinions" "I" "MarginBooks" ∈ lw_tbl := tb1 (i := 29) rfl
theorem nF_X2_50_l : Cond.fieldLinkNest RX2 50 "MarginBooks$House" "opinions" "I" "MarginBooks" ∈ lw_tbl := tb1 (i := 30) rfl
theorem nF_X8_271_l : Cond.fieldLinkNest RX8 271 "MarginBooks$House" "opinions" "I" "MarginBooks" ∈ lw_tbl := tb1 (i := 31) rfl
theorem gF_X0_28 : Cond.fieldLink RX0 28 "MarginBooks$House" "lines" "I" ∈ GW := GW_of (tb1 (i := 32) rfl) rfl
theorem nF_X7_62_l : Cond.fieldLinkNest RX7 62 "MarginBooks$House" "lines" "I" "MarginBooks" ∈ lw_tbl := tb1 (i := 33) rfl
theorem nF_X8_234_l : Cond.fieldLinkNest RX8 234 "MarginBooks$House" "lines" "I" "MarginBooks" ∈ lw_tbl := tb1 (i := 34) rfl
theorem gF_X0_15 : Cond.fieldLink RX0 15 "MarginBooks$House" "books" "I" ∈ GW := GW_of (tb1 (i := 35) rfl) rfl
theorem nF_X1_31_l : Cond.fieldLinkNest RX1 31 "MarginBooks$House" "books" "I" "MarginBooks" ∈ lw_tbl := tb1 (i := 36) rfl
theorem gF_X0_31 : Cond.fieldLink RX0 31 "MarginBooks$House" "told" "I" ∈ GW := GW_of (tb1 (i := 37) rfl) rfl
theorem nF_X8_96_l : Cond.fieldLinkNest RX8 96 "MarginBooks$House" "told" "I" "MarginBooks" ∈ lw_tbl := tb1 (i := 38) rfl
theorem nF_X1_19_l : Cond.fieldLinkNest RX1 19 "MarginBooks$House" "scribes" "I" "MarginBooks" ∈ lw_tbl := tb1 (i := 39) rfl
theorem gF_X0_34 : Cond.fieldLink RX0 34 "MarginBooks$House" "scribes" "I" ∈ GW := GW_of (tb1 (i := 40) rfl) rfl
theorem nF_X4_50_l : Cond.fieldLinkNest RX4 50 "MarginBooks$House" "scribes" "I" "MarginBooks" ∈ lw_tbl := tb1 (i := 41) rfl
theorem nF_X2_41_l : Cond.fieldLinkNest RX2 41 "MarginBooks$House" "scribes" "I" "MarginBooks" ∈ lw_tbl := tb1 (i := 42) rfl
theorem nF_X8_207_l : Cond.fieldLinkNest RX8 207 "MarginBooks$House" "scribes" "I" "MarginBooks" ∈ lw_tbl := tb1 (i := 43) rfl
theorem gF_X0_18 : Cond.fieldLink RX0 18 "MarginBooks$House" "need" "I" ∈ GW := GW_of (tb1 (i := 44) rfl) rfl
theorem nF_X4_85_l : Cond.fieldLinkNest RX4 85 "MarginBooks$House" "need" "I" "MarginBooks" ∈ lw_tbl := tb1 (i := 45) rfl
theorem nF_X8_307_l : Cond.fieldLinkNest RX8 307 "MarginBooks$House" "need" "I" "MarginBooks" ∈ lw_tbl := tb1 (i := 46) rfl
theorem gF_X0_21 : Cond.fieldLink RX0 21 "MarginBooks$House" "turn" "[I" ∈ GW := GW_of (tb1 (i := 47) rfl) rfl
theorem gF_X0_25 : Cond.fieldLink RX0 25 "MarginBooks$House" "bent" "[I" ∈ GW := GW_of (tb1 (i := 48) rfl) rfl
theorem gY_X0_opinions : Cond.lays RX0 "MarginBooks$House" "opinions" "I" ∈ GW := GW_of (tb1 (i := 49) rfl) rfl
theorem gY_X0_lines : Cond.lays RX0 "MarginBooks$House" "lines" "I" ∈ GW := GW_of (tb1 (i := 51) rfl) rfl
theorem gY_X0_books : Cond.lays RX0 "MarginBooks$House" "books" "I" ∈ GW := GW_of (tb1 (i := 53) rfl) rfl
theorem gY_X0_told : Cond.lays RX0 "MarginBooks$House" "told" "I" ∈ GW := GW_of (tb1 (i := 55) rfl) rfl
theorem gY_X0_scribes : Cond.lays RX0 "MarginBooks$House" "scribes" "I" ∈ GW := GW_of (tb1 (i := 57) rfl) rfl
theorem gY_X0_need : Cond.lays RX0 "MarginBooks$House" "need" "I" ∈ GW := GW_of (tb1 (i := 59) rfl) rfl
theorem gY_X0_turn : Cond.laysFinal RX0 "MarginBooks$House" "turn" "[I" ∈ GW := GW_of (tb1 (i := 61) rfl) rfl
theorem gY_X0_bent : Cond.laysFinal RX0 "MarginBooks$House" "bent" "[I" ∈ GW := GW_of (tb1 (i := 63) rfl) rfl
theorem gA_int : Cond.arrayClass .int ∈ GW := GW_of (tb1 (i := 66) rfl) rfl
theorem gL_X8_19 : Cond.classLink RX8 19 RX4 ∈ GW := GW_of (tb1 (i := 67) rfl) rfl
theorem gT_X4 : Cond.instantiable RX4 8 ∈ GW := GW_of (tb1 (i := 68) rfl) rfl
theorem nM_X8_21_l : Cond.methodLinkNest RX8 21 yX4_init "MarginBooks" ∈ lw_tbl := tb1 (i := 69) rfl
theorem gI_X4_init : Cond.instanceMethod yX4_init ∈ GW := GW_of (tb1 (i := 70) rfl) rfl
theorem gC_X4_init : Cond.code yX4_init cX4_init 1 none ∈ GW := GW_of (tb1 (i := 71) rfl) rfl
theorem gM_X4_3 : Cond.methodLink RX4 3 objectInit ∈ GW := GW_of (tb1 (i := 72) rfl) rfl
theorem gF_X4_11 : Cond.fieldLink RX4 11 "MarginBooks$Reader" "text" "[I" ∈ GW := GW_of (tb1 (i := 73) rfl) rfl
theorem gF_X4_15 : Cond.fieldLink RX4 15 "MarginBooks$Reader" "length" "I" ∈ GW := GW_of (tb1 (i := 74) rfl) rfl
theorem nF_X8_80_l : Cond.fieldLinkNest RX8 80 "MarginBooks$Reader" "length" "I" "MarginBooks" ∈ lw_tbl := tb1 (i := 75) rfl
theorem gF_X4_24 : Cond.fieldLink RX4 24 "MarginBooks$Reader" "next" "I" ∈ GW := GW_of (tb1 (i := 76) rfl) rfl
theorem gF_X4_59 : Cond.fieldLink RX4 59 "MarginBooks$Reader" "place" "I" ∈ GW := GW_of (tb1 (i := 77) rfl) rfl
theorem gF_X4_37 : Cond.fieldLink RX4 37 "MarginBooks$Reader" "sort" "I" ∈ GW := GW_of (tb1 (i := 78) rfl) rfl
theorem gF_X4_40 : Cond.fieldLink RX4 40 "MarginBooks$Reader" "value" "I" ∈ GW := GW_of (tb1 (i := 79) rfl) rfl
theorem gF_X4_27 : Cond.fieldLink RX4 27 "MarginBooks$Reader" "bookTold" "Z" ∈ GW := GW_of (tb1 (i := 80) rfl) rfl
theorem gF_X4_31 : Cond.fieldLink RX4 31 "MarginBooks$Reader" "needTold" "Z" ∈ GW := GW_of (tb1 (i := 81) rfl) rfl
theorem gY_X4_text : Cond.laysFinal RX4 "MarginBooks$Reader" "text" "[I" ∈ GW := GW_of (tb1 (i := 82) rfl) rfl
theorem gY_X4_length : Cond.lays RX4 "MarginBooks$Reader" "length" "I" ∈ GW := GW_of (tb1 (i := 84) rfl) rfl
theorem gY_X4_next : Cond.lays RX4 "MarginBooks$Reader" "next" "I" ∈ GW := GW_of (tb1 (i := 86) rfl) rfl
theorem gY_X4_place : Cond.lays RX4 "MarginBooks$Reader" "place" "I" ∈ GW := GW_of (tb1 (i := 88) rfl) rfl
theorem gY_X4_sort : Cond.lays RX4 "MarginBooks$Reader" "sort" "I" ∈ GW := GW_of (tb1 (i := 90) rfl) rfl
theorem gY_X4_value : Cond.lays RX4 "MarginBooks$Reader" "value" "I" ∈ GW := GW_of (tb1 (i := 92) rfl) rfl
theorem gY_X4_bookTold : Cond.lays RX4 "MarginBooks$Reader" "bookTold" "Z" ∈ GW := GW_of (tb1 (i := 94) rfl) rfl
theorem gY_X4_needTold : Cond.lays RX4 "MarginBooks$Reader" "needTold" "Z" ∈ GW := GW_of (tb1 (i := 96) rfl) rfl
theorem gL_X8_26 : Cond.classLink RX8 26 RX1 ∈ GW := GW_of (tb1 (i := 99) rfl) rfl
theorem gT_X1 : Cond.instantiable RX1 3 ∈ GW := GW_of (tb1 (i := 100) rfl) rfl
theorem nM_X8_28_l : Cond.methodLinkNest RX8 28 yX1_init "MarginBooks" ∈ lw_tbl := tb1 (i := 101) rfl
theorem gI_X1_init : Cond.instanceMethod yX1_init ∈ GW := GW_of (tb1 (i := 102) rfl) rfl
theorem gC_X1_init : Cond.code yX1_init cX1_init 1 none ∈ GW := GW_of (tb1 (i := 103) rfl) rfl
theorem gM_X1_3 : Cond.methodLink RX1 3 objectInit ∈ GW := GW_of (tb1 (i := 104) rfl) rfl
theorem gF_X1_9 : Cond.fieldLink RX1 9 "MarginBooks$Laws" "made" "[I" ∈ GW := GW_of (tb1 (i := 105) rfl) rfl
theorem gF_X1_30 : Cond.fieldLink RX1 30 "MarginBooks$Laws" "scribes" "I" ∈ GW := GW_of (tb1 (i := 106) rfl) rfl
theorem nF_X5_41_l : Cond.fieldLinkNest RX5 41 "MarginBooks$Laws" "scribes" "I" "MarginBooks" ∈ lw_tbl := tb1 (i := 107) rfl
theorem nF_X7_56_l : Cond.fieldLinkNest RX7 56 "MarginBooks$Laws" "scribes" "I" "MarginBooks" ∈ lw_tbl := tb1 (i := 108) rfl
theorem gF_X1_15 : Cond.fieldLink RX1 15 "MarginBooks$Laws" "books" "I" ∈ GW := GW_of (tb1 (i := 109) rfl) rfl
theorem nF_X5_38_l : Cond.fieldLinkNest RX5 38 "MarginBooks$Laws" "books" "I" "MarginBooks" ∈ lw_tbl := tb1 (i := 110) rfl
theorem nF_X7_53_l : Cond.fieldLinkNest RX7 53 "MarginBooks$Laws" "books" "I" "MarginBooks" ∈ lw_tbl := tb1 (i := 111) rfl
theorem gY_X1_made : Cond.laysFinal RX1 "MarginBooks$Laws" "made" "[I" ∈ GW := GW_of (tb1 (i := 112) rfl) rfl
theorem gY_X1_scribes : Cond.lays RX1 "MarginBooks$Laws" "scribes" "I" ∈ GW := GW_of (tb1 (i := 114) rfl) rfl
theorem gY_X1_books : Cond.lays RX1 "MarginBooks$Laws" "books" "I" ∈ GW := GW_of (tb1 (i := 116) rfl) rfl
theorem gL_X8_33 : Cond.classLink RX8 33 RX6 ∈ GW := GW_of (tb1 (i := 119) rfl) rfl
theorem gT_X6 : Cond.instantiable RX6 2 ∈ GW := GW_of (tb1 (i := 120) rfl) rfl
theorem nM_X8_35_l : Cond.methodLinkNest RX8 35 yX6_init "MarginBooks" ∈ lw_tbl := tb1 (i := 121) rfl
theorem gI_X6_init : Cond.instanceMethod yX6_init ∈ GW := GW_of (tb1 (i := 122) rfl) rfl
theorem gC_X6_init : Cond.code yX6_init cX6_init 1 none ∈ GW := GW_of (tb1 (i := 123) rfl) rfl
theorem gM_X6_5 : Cond.methodLink RX6 5 objectInit ∈ GW := GW_of (tb1 (i := 124) rfl) rfl
theorem gL_X6_11 : Cond.classLink RX6 11 "[[I" ∈ GW := GW_of (tb1 (i := 125) rfl) rfl
theorem nO_l : Cond.arrayOver (.array .int) ∈ lw_tbl := tb1 (i := 126) rfl
theorem gF_X6_13 : Cond.fieldLink RX6 13 "MarginBooks$Standing" "rows" "[[I" ∈ GW := GW_of (tb1 (i := 127) rfl) rfl
theorem gF_X6_16 : Cond.fieldLink RX6 16 "MarginBooks$Standing" "known" "I" ∈ GW := GW_of (tb1 (i := 128) rfl) rfl
theorem nF_X8_191_l : Cond.fieldLinkNest RX8 191 "MarginBooks$Standing" "known" "I" "MarginBooks" ∈ lw_tbl := tb1 (i := 129) rfl
theorem gY_X6_rows : Cond.laysFinal RX6 "MarginBooks$Standing" "rows" "[[I" ∈ GW := GW_of (tb1 (i := 130) rfl) rfl
theorem gY_X6_known : Cond.lays RX6 "MarginBooks$Standing" "known" "I" ∈ GW := GW_of (tb1 (i := 132) rfl) rfl
theorem gL_X8_46 : Cond.classLink RX8 46 RX5 ∈ GW := GW_of (tb1 (i := 135) rfl) rfl
theorem gT_X5 : Cond.instantiable RX5 5 ∈ GW := GW_of (tb1 (i := 136) rfl) rfl
theorem nM_X8_48_l : Cond.methodLinkNest RX8 48 yX5_init "MarginBooks" ∈ lw_tbl := tb1 (i := 137) rfl
theorem gI_X5_init : Cond.instanceMethod yX5_init ∈ GW := GW_of (tb1 (i := 138) rfl) rfl
theorem gC_X5_init : Cond.code yX5_init cX5_init 2 none ∈ GW := GW_of (tb1 (i := 139) rfl) rfl
theorem gM_X5_3 : Cond.methodLink RX5 3 objectInit ∈ GW := GW_of (tb1 (i := 140) rfl) rfl
theorem gF_X5_9 : Cond.fieldLink RX5 9 "MarginBooks$Rounds" "laws" "LMarginBooks$Laws;" ∈ GW := GW_of (tb1 (i := 141) rfl) rfl
theorem gF_X5_15 : Cond.fieldLink RX5 15 "MarginBooks$Rounds" "book" "I" ∈ GW := GW_of (tb1 (i := 142) rfl) rfl
theorem nF_X8_220_l : Cond.fieldLinkNest RX8 220 "MarginBooks$Rounds" "book" "I" "MarginBooks" ∈ lw_tbl := tb1 (i := 143) rfl
theorem gF_X5_19 : Cond.fieldLink RX5 19 "MarginBooks$Rounds" "copies" "I" ∈ GW := GW_of (tb1 (i := 144) rfl) rfl
theorem nF_X8_231_l : Cond.fieldLinkNest RX8 231 "MarginBooks$Rounds" "copies" "I" "MarginBooks" ∈ lw_tbl := tb1 (i := 145) rfl
theorem gF_X5_22 : Cond.fieldLink RX5 22 "MarginBooks$Rounds" "ender" "I" ∈ GW := GW_of (tb1 (i := 146) rfl) rfl
theorem nF_X8_225_l : Cond.fieldLinkNest RX8 225 "MarginBooks$Rounds" "ender" "I" "MarginBooks" ∈ lw_tbl := tb1 (i := 147) rfl
theorem gF_X5_25 : Cond.fieldLink RX5 25 "MarginBooks$Rounds" "goesOn" "Z" ∈ GW := GW_of (tb1 (i := 148) rfl) rfl
theorem nF_X8_228_l : Cond.fieldLinkNest RX8 228 "MarginBooks$Rounds" "goesOn" "Z" "MarginBooks" ∈ lw_tbl := tb1 (i := 149) rfl
theorem gY_X5_laws : Cond.laysFinal RX5 "MarginBooks$Rounds" "laws" "LMarginBooks$Laws;" ∈ GW := GW_of (tb1 (i := 150) rfl) rfl
theorem gY_X5_book : Cond.lays RX5 "MarginBooks$Rounds" "book" "I" ∈ GW := GW_of (tb1 (i := 152) rfl) rfl
theorem gY_X5_copies : Cond.lays RX5 "MarginBooks$Rounds" "copies" "I" ∈ GW := GW_of (tb1 (i := 154) rfl) rfl
theorem gY_X5_ender : Cond.lays RX5 "MarginBooks$Rounds" "ender" "I" ∈ GW := GW_of (tb1 (i := 156) rfl) rfl
theorem gY_X5_goesOn : Cond.lays RX5 "MarginBooks$Rounds" "goesOn" "Z" ∈ GW := GW_of (tb1 (i := 158) rfl) rfl
theorem gL_X8_55 : Cond.classLink RX8 55 RX7 ∈ GW := GW_of (tb1 (i := 161) rfl) rfl
theorem gT_X7 : Cond.instantiable RX7 6 ∈ GW := GW_of (tb1 (i := 162) rfl) rfl
theorem nM_X8_57_l : Cond.methodLinkNest RX8 57 yX7_init "MarginBooks" ∈ lw_tbl := tb1 (i := 163) rfl
theorem gI_X7_init : Cond.instanceMethod yX7_init ∈ GW := GW_of (tb1 (i := 164) rfl) rfl
theorem gC_X7_init : Cond.code yX7_init cX7_init 2 none ∈ GW := GW_of (tb1 (i := 165) rfl) rfl
theorem gM_X7_3 : Cond.methodLink RX7 3 objectInit ∈ GW := GW_of (tb1 (i := 166) rfl) rfl
theorem gF_X7_24 : Cond.fieldLink RX7 24 "MarginBooks$Ways" "laws" "LMarginBooks$Laws;" ∈ GW := GW_of (tb1 (i := 167) rfl) rfl
theorem gF_X7_9 : Cond.fieldLink RX7 9 "MarginBooks$Ways" "distance" "[I" ∈ GW := GW_of (tb1 (i := 168) rfl) rfl
theorem gF_X7_15 : Cond.fieldLink RX7 15 "MarginBooks$Ways" "before" "[I" ∈ GW := GW_of (tb1 (i := 169) rfl) rfl
theorem gF_X7_18 : Cond.fieldLink RX7 18 "MarginBooks$Ways" "lastScribe" "[I" ∈ GW := GW_of (tb1 (i := 170) rfl) rfl
theorem gF_X7_21 : Cond.fieldLink RX7 21 "MarginBooks$Ways" "queue" "[I" ∈ GW := GW_of (tb1 (i := 171) rfl) rfl
theorem gF_X7_28 : Cond.fieldLink RX7 28 "MarginBooks$Ways" "queued" "I" ∈ GW := GW_of (tb1 (i := 172) rfl) rfl
theorem gY_X7_laws : Cond.laysFinal RX7 "MarginBooks$Ways" "laws" "LMarginBooks$Laws;" ∈ GW := GW_of (tb1 (i := 173) rfl) rfl
theorem gY_X7_distance : Cond.laysFinal RX7 "MarginBooks$Ways" "distance" "[I" ∈ GW := GW_of (tb1 (i := 175) rfl) rfl
theorem gY_X7_before : Cond.laysFinal RX7 "MarginBooks$Ways" "before" "[I" ∈ GW := GW_of (tb1 (i := 177) rfl) rfl
theorem gY_X7_lastScribe : Cond.laysFinal RX7 "MarginBooks$Ways" "lastScribe" "[I" ∈ GW := GW_of (tb1 (i := 179) rfl) rfl
theorem gY_X7_queue : Cond.laysFinal RX7 "MarginBooks$Ways" "queue" "[I" ∈ GW := GW_of (tb1 (i := 181) rfl) rfl
theorem gY_X7_queued : Cond.lays RX7 "MarginBooks$Ways" "queued" "I" ∈ GW := GW_of (tb1 (i := 183) rfl) rfl
theorem gL_X8_62 : Cond.classLink RX8 62 RX2 ∈ GW := GW_of (tb1 (i := 186) rfl) rfl
theorem gT_X2 : Cond.instantiable RX2 3 ∈ GW := GW_of (tb1 (i := 187) rfl) rfl
theorem nM_X8_64_l : Cond.methodLinkNest RX8 64 yX2_init "MarginBooks" ∈ lw_tbl := tb1 (i := 188) rfl
theorem gI_X2_init : Cond.instanceMethod yX2_init ∈ GW := GW_of (tb1 (i := 189) rfl) rfl
theorem gC_X2_init : Cond.code yX2_init cX2_init 1 none ∈ GW := GW_of (tb1 (i := 190) rfl) rfl
theorem gM_X2_3 : Cond.methodLink RX2 3 objectInit ∈ GW := GW_of (tb1 (i := 191) rfl) rfl
theorem gF_X2_11 : Cond.fieldLink RX2 11 "MarginBooks$Margins" "of" "[I" ∈ GW := GW_of (tb1 (i := 192) rfl) rfl
theorem gF_X2_15 : Cond.fieldLink RX2 15 "MarginBooks$Margins" "said" "[I" ∈ GW := GW_of (tb1 (i := 193) rfl) rfl
theorem gF_X2_18 : Cond.fieldLink RX2 18 "MarginBooks$Margins" "size" "I" ∈ GW := GW_of (tb1 (i := 194) rfl) rfl
theorem nF_X8_268_l : Cond.fieldLinkNest RX8 268 "MarginBooks$Margins" "size" "I" "MarginBooks" ∈ lw_tbl := tb1 (i := 195) rfl
theorem gY_X2_of : Cond.laysFinal RX2 "MarginBooks$Margins" "of" "[I" ∈ GW := GW_of (tb1 (i := 196) rfl) rfl
theorem gY_X2_said : Cond.laysFinal RX2 "MarginBooks$Margins" "said" "[I" ∈ GW := GW_of (tb1 (i := 198) rfl) rfl
theorem gY_X2_size : Cond.lays RX2 "MarginBooks$Margins" "size" "I" ∈ GW := GW_of (tb1 (i := 200) rfl) rfl
theorem gL_X8_69 : Cond.classLink RX8 69 RX3 ∈ GW := GW_of (tb1 (i := 203) rfl) rfl
theorem gT_X3 : Cond.instantiable RX3 6 ∈ GW := GW_of (tb1 (i := 204) rfl) rfl
theorem nM_X8_71_l : Cond.methodLinkNest RX8 71 yX3_init "MarginBooks" ∈ lw_tbl := tb1 (i := 205) rfl
theorem gI_X3_init : Cond.instanceMethod yX3_init ∈ GW := GW_of (tb1 (i := 206) rfl) rfl
theorem gC_X3_init : Cond.code yX3_init cX3_init 1 none ∈ GW := GW_of (tb1 (i := 207) rfl) rfl
theorem gM_X3_1 : Cond.methodLink RX3 1 objectInit ∈ GW := GW_of (tb1 (i := 208) rfl) rfl
theorem gF_X3_28 : Cond.fieldLink RX3 28 "MarginBooks$Marks" "unlike" "I" ∈ GW := GW_of (tb1 (i := 209) rfl) rfl
theorem nF_X8_287_l : Cond.fieldLinkNest RX8 287 "MarginBooks$Marks" "unlike" "I" "MarginBooks" ∈ lw_tbl := tb1 (i := 210) rfl
theorem gF_X3_32 : Cond.fieldLink RX3 32 "MarginBooks$Marks" "turn" "I" ∈ GW := GW_of (tb1 (i := 211) rfl) rfl
theorem nF_X8_290_l : Cond.fieldLinkNest RX8 290 "MarginBooks$Marks" "turn" "I" "MarginBooks" ∈ lw_tbl := tb1 (i := 212) rfl
theorem gF_X3_38 : Cond.fieldLink RX3 38 "MarginBooks$Marks" "bent" "I" ∈ GW := GW_of (tb1 (i := 213) rfl) rfl
theorem nF_X8_293_l : Cond.fieldLinkNest RX8 293 "MarginBooks$Marks" "bent" "I" "MarginBooks" ∈ lw_tbl := tb1 (i := 214) rfl
theorem gF_X3_35 : Cond.fieldLink RX3 35 "MarginBooks$Marks" "times" "I" ∈ GW := GW_of (tb1 (i := 215) rfl) rfl
theorem nF_X8_296_l : Cond.fieldLinkNest RX8 296 "MarginBooks$Marks" "times" "I" "MarginBooks" ∈ lw_tbl := tb1 (i := 216) rfl
theorem gF_X3_41 : Cond.fieldLink RX3 41 "MarginBooks$Marks" "copies" "I" ∈ GW := GW_of (tb1 (i := 217) rfl) rfl
theorem nF_X8_299_l : Cond.fieldLinkNest RX8 299 "MarginBooks$Marks" "copies" "I" "MarginBooks" ∈ lw_tbl := tb1 (i := 218) rfl
theorem gF_X3_13 : Cond.fieldLink RX3 13 "MarginBooks$Marks" "traced" "J" ∈ GW := GW_of (tb1 (i := 219) rfl) rfl
theorem nF_X8_310_l : Cond.fieldLinkNest RX8 310 "MarginBooks$Marks" "traced" "J" "MarginBooks" ∈ lw_tbl := tb1 (i := 220) rfl
theorem gY_X3_unlike : Cond.lays RX3 "MarginBooks$Marks" "unlike" "I" ∈ GW := GW_of (tb1 (i := 221) rfl) rfl
theorem gY_X3_turn : Cond.lays RX3 "MarginBooks$Marks" "turn" "I" ∈ GW := GW_of (tb1 (i := 223) rfl) rfl
theorem gY_X3_bent : Cond.lays RX3 "MarginBooks$Marks" "bent" "I" ∈ GW := GW_of (tb1 (i := 225) rfl) rfl
theorem gY_X3_times : Cond.lays RX3 "MarginBooks$Marks" "times" "I" ∈ GW := GW_of (tb1 (i := 227) rfl) rfl
theorem gY_X3_copies : Cond.lays RX3 "MarginBooks$Marks" "copies" "I" ∈ GW := GW_of (tb1 (i := 229) rfl) rfl
theorem gY_X3_traced : Cond.lays RX3 "MarginBooks$Marks" "traced" "J" ∈ GW := GW_of (tb1 (i := 231) rfl) rfl
theorem gF_X8_10 : Cond.fieldLink RX8 10 "MarginBooks" "house" "LMarginBooks$House;" ∈ GW := GW_of (tb1 (i := 234) rfl) rfl
theorem gF_X8_16 : Cond.fieldLink RX8 16 "MarginBooks" "draft" "LMarginBooks$House;" ∈ GW := GW_of (tb1 (i := 235) rfl) rfl
theorem gF_X8_22 : Cond.fieldLink RX8 22 "MarginBooks" "reader" "LMarginBooks$Reader;" ∈ GW := GW_of (tb1 (i := 236) rfl) rfl
theorem gF_X8_29 : Cond.fieldLink RX8 29 "MarginBooks" "laws" "LMarginBooks$Laws;" ∈ GW := GW_of (tb1 (i := 237) rfl) rfl
theorem gF_X8_36 : Cond.fieldLink RX8 36 "MarginBooks" "standing" "LMarginBooks$Standing;" ∈ GW := GW_of (tb1 (i := 238) rfl) rfl
theorem gF_X8_40 : Cond.fieldLink RX8 40 "MarginBooks" "imageZero" "LMarginBooks$Standing;" ∈ GW := GW_of (tb1 (i := 239) rfl) rfl
theorem gF_X8_43 : Cond.fieldLink RX8 43 "MarginBooks" "imageOne" "LMarginBooks$Standing;" ∈ GW := GW_of (tb2 (i := 0) rfl) rfl
theorem gF_X8_107 : Cond.fieldLink RX8 107 "MarginBooks" "keptZero" "Z" ∈ GW := GW_of (tb2 (i := 1) rfl) rfl
theorem gF_X8_111 : Cond.fieldLink RX8 111 "MarginBooks" "keptOne" "Z" ∈ GW := GW_of (tb2 (i := 2) rfl) rfl
theorem gF_X8_103 : Cond.fieldLink RX8 103 "MarginBooks" "target" "I" ∈ GW := GW_of (tb2 (i := 3) rfl) rfl
theorem gF_X8_51 : Cond.fieldLink RX8 51 "MarginBooks" "rounds" "LMarginBooks$Rounds;" ∈ GW := GW_of (tb2 (i := 4) rfl) rfl
theorem gF_X8_58 : Cond.fieldLink RX8 58 "MarginBooks" "ways" "LMarginBooks$Ways;" ∈ GW := GW_of (tb2 (i := 5) rfl) rfl
theorem gF_X8_65 : Cond.fieldLink RX8 65 "MarginBooks" "margins" "LMarginBooks$Margins;" ∈ GW := GW_of (tb2 (i := 6) rfl) rfl
theorem gF_X8_72 : Cond.fieldLink RX8 72 "MarginBooks" "marks" "LMarginBooks$Marks;" ∈ GW := GW_of (tb2 (i := 7) rfl) rfl
theorem gY_X8_house : Cond.lays RX8 "MarginBooks" "house" "LMarginBooks$House;" ∈ GW := GW_of (tb2 (i := 8) rfl) rfl
theorem gY_X8_draft : Cond.lays RX8 "MarginBooks" "draft" "LMarginBooks$House;" ∈ GW := GW_of (tb2 (i := 10) rfl) rfl
theorem gY_X8_reader : Cond.laysFinal RX8 "MarginBooks" "reader" "LMarginBooks$Reader;" ∈ GW := GW_of (tb2 (i := 12) rfl) rfl
theorem gY_X8_laws : Cond.laysFinal RX8 "MarginBooks" "laws" "LMarginBooks$Laws;" ∈ GW := GW_of (tb2 (i := 14) rfl) rfl
theorem gY_X8_standing : Cond.laysFinal RX8 "MarginBooks" "standing" "LMarginBooks$Standing;" ∈ GW := GW_of (tb2 (i := 16) rfl) rfl
theorem gY_X8_imageZero : Cond.laysFinal RX8 "MarginBooks" "imageZero" "LMarginBooks$Standing;" ∈ GW := GW_of (tb2 (i := 18) rfl) rfl
theorem gY_X8_imageOne : Cond.laysFinal RX8 "MarginBooks" "imageOne" "LMarginBooks$Standing;" ∈ GW := GW_of (tb2 (i := 20) rfl) rfl
theorem gY_X8_keptZero : Cond.lays RX8 "MarginBooks" "keptZero" "Z" ∈ GW := GW_of (tb2 (i := 22) rfl) rfl
theorem gY_X8_keptOne : Cond.lays RX8 "MarginBooks" "keptOne" "Z" ∈ GW := GW_of (tb2 (i := 24) rfl) rfl
theorem gY_X8_target : Cond.lays RX8 "MarginBooks" "target" "I" ∈ GW := GW_of (tb2 (i := 26) rfl) rfl
theorem gY_X8_rounds : Cond.laysFinal RX8 "MarginBooks" "rounds" "LMarginBooks$Rounds;" ∈ GW := GW_of (tb2 (i := 28) rfl) rfl
theorem gY_X8_ways : Cond.laysFinal RX8 "MarginBooks" "ways" "LMarginBooks$Ways;" ∈ GW := GW_of (tb2 (i := 30) rfl) rfl
theorem gY_X8_margins : Cond.laysFinal RX8 "MarginBooks" "margins" "LMarginBooks$Margins;" ∈ GW := GW_of (tb2 (i := 32) rfl) rfl
theorem gY_X8_marks : Cond.laysFinal RX8 "MarginBooks" "marks" "LMarginBooks$Marks;" ∈ GW := GW_of (tb2 (i := 34) rfl) rfl
theorem gM_L_13 : Cond.methodLink RL 13 yX8_type ∈ GW := GW_of (tb2 (i := 37) rfl) rfl
theorem gI_X8_type : Cond.instanceMethod yX8_type ∈ GW := GW_of (tb2 (i := 38) rfl) rfl
theorem gE_X8_type : Cond.selects RX8 yX8_type yX8_type ∈ GW := GW_of (tb2 (i := 39) rfl) rfl
theorem gC_X8_type : Cond.code yX8_type cX8_type 2 (Option.some .int) ∈ GW := GW_of (tb2 (i := 40) rfl) rfl
theorem nM_X8_76_l : Cond.methodLinkNest RX8 76 yX4_add "MarginBooks" ∈ lw_tbl := tb2 (i := 41) rfl
theorem gI_X4_add : Cond.instanceMethod yX4_add ∈ GW := GW_of (tb2 (i := 43) rfl) rfl
theorem gC_X4_add : Cond.code yX4_add cX4_add 2 (Option.some .boolean) ∈ GW := GW_of (tb2 (i := 44) rfl) rfl
theorem gM_L_18 : Cond.methodLink RL 18 yX8_clear ∈ GW := GW_of (tb2 (i := 45) rfl) rfl
theorem gI_X8_clear : Cond.instanceMethod yX8_clear ∈ GW := GW_of (tb2 (i := 46) rfl) rfl
theorem gE_X8_clear : Cond.selects RX8 yX8_clear yX8_clear ∈ GW := GW_of (tb2 (i := 47) rfl) rfl
theorem gC_X8_clear : Cond.code yX8_clear cX8_clear 1 (Option.some .int) ∈ GW := GW_of (tb2 (i := 48) rfl) rfl
theorem nM_X8_84_l : Cond.methodLinkNest RX8 84 yX4_empty "MarginBooks" ∈ lw_tbl := tb2 (i := 49) rfl
theorem gI_X4_empty : Cond.instanceMethod yX4_empty ∈ GW := GW_of (tb2 (i := 51) rfl) rfl
theorem gC_X4_empty : Cond.code yX4_empty cX4_empty 2 (Option.some .int) ∈ GW := GW_of (tb2 (i := 52) rfl) rfl
theorem gM_L_23 : Cond.methodLink RL 23 yX8_house ∈ GW := GW_of (tb2 (i := 53) rfl) rfl
theorem gI_X8_house : Cond.instanceMethod yX8_house ∈ GW := GW_of (tb2 (i := 54) rfl) rfl
theorem gE_X8_house : Cond.selects RX8 yX8_house yX8_house ∈ GW := GW_of (tb2 (i := 55) rfl) rfl
theorem gC_X8_house : Cond.code yX8_house cX8_house 3 (Option.some .int) ∈ GW := GW_of (tb2 (i := 56) rfl) rfl
theorem nM_X8_88_l : Cond.methodLinkNest RX8 88 yX4_read "MarginBooks" ∈ lw_tbl := tb2 (i := 57) rfl
theorem gI_X4_read : Cond.instanceMethod yX4_read ∈ GW := GW_of (tb2 (i := 59) rfl) rfl
theorem gC_X4_read : Cond.code yX4_read cX4_read 4 (Option.some .int) ∈ GW := GW_of (tb2 (i := 60) rfl) rfl
theorem nM_X4_19_l : Cond.methodLinkNest RX4 19 yX0_begin "MarginBooks" ∈ lw_tbl := tb2 (i := 61) rfl
theorem gI_X0_begin : Cond.instanceMethod yX0_begin ∈ GW := GW_of (tb2 (i := 63) rfl) rfl
theorem gC_X0_begin : Cond.code yX0_begin cX0_begin 1 none ∈ GW := GW_of (tb2 (i := 64) rfl) rfl
theorem gM_X4_34 : Cond.methodLink RX4 34 yX4_readToken ∈ GW := GW_of (tb2 (i := 65) rfl) rfl
theorem gI_X4_readToken : Cond.instanceMethod yX4_readToken ∈ GW := GW_of (tb2 (i := 67) rfl) rfl
theorem gC_X4_readToken : Cond.code yX4_readToken cX4_readToken 2 none ∈ GW := GW_of (tb2 (i := 68) rfl) rfl
theorem gM_X4_88 : Cond.methodLink RX4 88 yX4_byteAt ∈ GW := GW_of (tb2 (i := 69) rfl) rfl
theorem gI_X4_byteAt : Cond.instanceMethod yX4_byteAt ∈ GW := GW_of (tb2 (i := 71) rfl) rfl
theorem gC_X4_byteAt : Cond.code yX4_byteAt cX4_byteAt 2 (Option.some .int) ∈ GW := GW_of (tb2 (i := 72) rfl) rfl
theorem gM_X4_92 : Cond.methodLink RX4 92 yX4_isLetter ∈ GW := GW_of (tb2 (i := 73) rfl) rfl
theorem gS_X4_isLetter : Cond.static yX4_isLetter ∈ GW := GW_of (tb2 (i := 74) rfl) rfl
theorem gC_X4_isLetter : Cond.code yX4_isLetter cX4_isLetter 1 (Option.some .boolean) ∈ GW := GW_of (tb2 (i := 75) rfl) rfl
theorem gM_X4_95 : Cond.methodLink RX4 95 yX4_readLetters ∈ GW := GW_of (tb2 (i := 76) rfl) rfl
theorem gI_X4_readLetters : Cond.instanceMethod yX4_readLetters ∈ GW := GW_of (tb2 (i := 78) rfl) rfl
theorem gC_X4_readLetters : Cond.code yX4_readLetters cX4_readLetters 1 none ∈ GW := GW_of (tb2 (i := 79) rfl) rfl
theorem gM_X4_98 : Cond.methodLink RX4 98 yX4_isFigure ∈ GW := GW_of (tb2 (i := 80) rfl) rfl
theorem gS_X4_isFigure : Cond.static yX4_isFigure ∈ GW := GW_of (tb2 (i := 81) rfl) rfl
theorem gC_X4_isFigure : Cond.code yX4_isFigure cX4_isFigure 1 (Option.some .boolean) ∈ GW := GW_of (tb2 (i := 82) rfl) rfl
theorem gM_X4_101 : Cond.methodLink RX4 101 yX4_readFigures ∈ GW := GW_of (tb2 (i := 83) rfl) rfl
theorem gI_X4_readFigures : Cond.instanceMethod yX4_readFigures ∈ GW := GW_of (tb2 (i := 85) rfl) rfl
theorem gC_X4_readFigures : Cond.code yX4_readFigures cX4_readFigures 2 none ∈ GW := GW_of (tb2 (i := 86) rfl) rfl
theorem gM_X4_104 : Cond.methodLink RX4 104 yJ9_min_7cf53 ∈ GW := GW_of (tb2 (i := 87) rfl) rfl
theorem gS_J9_min_7cf53 : Cond.static yJ9_min_7cf53 ∈ GW := GW_of (tb2 (i := 88) rfl) rfl
theorem gC_J9_min_7cf53 : Cond.code yJ9_min_7cf53 cJ9_min_7cf53 2 (Option.some .int) ∈ GW := GW_of (tb2 (i := 89) rfl) rfl
theorem gM_X4_43 : Cond.methodLink RX4 43 yX4_readOpinions ∈ GW := GW_of (tb2 (i := 90) rfl) rfl
theorem gI_X4_readOpinions : Cond.instanceMethod yX4_readOpinions ∈ GW := GW_of (tb2 (i := 92) rfl) rfl
theorem gC_X4_readOpinions : Cond.code yX4_readOpinions cX4_readOpinions 2 (Option.some .boolean) ∈ GW := GW_of (tb2 (i := 93) rfl) rfl
theorem gM_X4_62 : Cond.methodLink RX4 62 yX4_readNumber ∈ GW := GW_of (tb2 (i := 94) rfl) rfl
theorem gI_X4_readNumber : Cond.instanceMethod yX4_readNumber ∈ GW := GW_of (tb2 (i := 96) rfl) rfl
theorem gC_X4_readNumber : Cond.code yX4_readNumber cX4_readNumber 3 (Option.some .boolean) ∈ GW := GW_of (tb2 (i := 97) rfl) rfl
theorem gM_X4_69 : Cond.methodLink RX4 69 yX4_readStop ∈ GW := GW_of (tb2 (i := 98) rfl) rfl
theorem gI_X4_readStop : Cond.instanceMethod yX4_readStop ∈ GW := GW_of (tb2 (i := 100) rfl) rfl
theorem gC_X4_readStop : Cond.code yX4_readStop cX4_readStop 1 (Option.some .boolean) ∈ GW := GW_of (tb2 (i := 101) rfl) rfl
theorem gM_X4_47 : Cond.methodLink RX4 47 yX4_readBook ∈ GW := GW_of (tb2 (i := 102) rfl) rfl
theorem gI_X4_readBook : Cond.instanceMethod yX4_readBook ∈ GW := GW_of (tb2 (i := 104) rfl) rfl
theorem gC_X4_readBook : Cond.code yX4_readBook cX4_readBook 3 (Option.some .boolean) ∈ GW := GW_of (tb2 (i := 105) rfl) rfl
theorem nM_X4_73_l : Cond.methodLinkNest RX4 73 yX0_hasOpinion "MarginBooks" ∈ lw_tbl := tb2 (i := 106) rfl
theorem gI_X0_hasOpinion : Cond.instanceMethod yX0_hasOpinion ∈ GW := GW_of (tb2 (i := 108) rfl) rfl
theorem gC_X0_hasOpinion : Cond.code yX0_hasOpinion cX0_hasOpinion 2 (Option.some .boolean) ∈ GW := GW_of (tb2 (i := 109) rfl) rfl
theorem nM_X4_77_l : Cond.methodLinkNest RX4 77 yX0_addLine "MarginBooks" ∈ lw_tbl := tb2 (i := 110) rfl
theorem gI_X0_addLine : Cond.instanceMethod yX0_addLine ∈ GW := GW_of (tb2 (i := 112) rfl) rfl
theorem gC_X0_addLine : Cond.code yX0_addLine cX0_addLine 2 none ∈ GW := GW_of (tb2 (i := 113) rfl) rfl
theorem gM_X4_53 : Cond.methodLink RX4 53 yX4_readScribe ∈ GW := GW_of (tb2 (i := 114) rfl) rfl
theorem gI_X4_readScribe : Cond.instanceMethod yX4_readScribe ∈ GW := GW_of (tb2 (i := 116) rfl) rfl
theorem gC_X4_readScribe : Cond.code yX4_readScribe cX4_readScribe 3 (Option.some .boolean) ∈ GW := GW_of (tb2 (i := 117) rfl) rfl
theorem nM_X4_81_l : Cond.methodLinkNest RX4 81 yX0_addScribe "MarginBooks" ∈ lw_tbl := tb2 (i := 118) rfl
theorem gI_X0_addScribe : Cond.instanceMethod yX0_addScribe ∈ GW := GW_of (tb2 (i := 120) rfl) rfl
theorem gC_X0_addScribe : Cond.code yX0_addScribe cX0_addScribe 3 none ∈ GW := GW_of (tb2 (i := 121) rfl) rfl
theorem gM_X4_56 : Cond.methodLink RX4 56 yX4_readNeed ∈ GW := GW_of (tb2 (i := 122) rfl) rfl
theorem gI_X4_readNeed : Cond.instanceMethod yX4_readNeed ∈ GW := GW_of (tb2 (i := 124) rfl) rfl
theorem gC_X4_readNeed : Cond.code yX4_readNeed cX4_readNeed 2 (Option.some .boolean) ∈ GW := GW_of (tb2 (i := 125) rfl) rfl
theorem nM_X8_92_l : Cond.methodLinkNest RX8 92 yX1_learn "MarginBooks" ∈ lw_tbl := tb2 (i := 126) rfl
theorem gI_X1_learn : Cond.instanceMethod yX1_learn ∈ GW := GW_of (tb2 (i := 128) rfl) rfl
theorem gC_X1_learn : Cond.code yX1_learn cX1_learn 4 none ∈ GW := GW_of (tb2 (i := 129) rfl) rfl
theorem gM_X1_24 : Cond.methodLink RX1 24 yJ9_min_7cf53 ∈ GW := GW_of (tb2 (i := 130) rfl) rfl
theorem nM_X1_32_l : Cond.methodLinkNest RX1 32 yX0_isConvinced "MarginBooks" ∈ lw_tbl := tb2 (i := 131) rfl
theorem gI_X0_isConvinced : Cond.instanceMethod yX0_isConvinced ∈ GW := GW_of (tb2 (i := 133) rfl) rfl
theorem gC_X0_isConvinced : Cond.code yX0_isConvinced cX0_isConvinced 3 (Option.some .boolean) ∈ GW := GW_of (tb2 (i := 134) rfl) rfl
theorem gM_X0_62 : Cond.methodLink RX0 62 yX0_unlikeLines ∈ GW := GW_of (tb2 (i := 135) rfl) rfl
theorem gI_X0_unlikeLines : Cond.instanceMethod yX0_unlikeLines ∈ GW := GW_of (tb2 (i := 137) rfl) rfl
theorem gC_X0_unlikeLines : Cond.code yX0_unlikeLines cX0_unlikeLines 7 (Option.some .int) ∈ GW := GW_of (tb2 (i := 138) rfl) rfl
theorem gM_X0_59 : Cond.methodLink RX0 59 yX0_saidBy ∈ GW := GW_of (tb2 (i := 139) rfl) rfl
theorem gI_X0_saidBy : Cond.instanceMethod yX0_saidBy ∈ GW := GW_of (tb2 (i := 141) rfl) rfl
theorem gC_X0_saidBy : Cond.code yX0_saidBy cX0_saidBy 3 (Option.some .int) ∈ GW := GW_of (tb2 (i := 142) rfl) rfl
theorem gM_X0_41 : Cond.methodLink RX0 41 yX0_turnOf ∈ GW := GW_of (tb2 (i := 143) rfl) rfl
theorem gI_X0_turnOf : Cond.instanceMethod yX0_turnOf ∈ GW := GW_of (tb2 (i := 145) rfl) rfl
theorem gC_X0_turnOf : Cond.code yX0_turnOf cX0_turnOf 2 (Option.some .int) ∈ GW := GW_of (tb2 (i := 146) rfl) rfl
theorem gM_X0_37 : Cond.methodLink RX0 37 yX0_hasScribe ∈ GW := GW_of (tb2 (i := 147) rfl) rfl
theorem gI_X0_hasScribe : Cond.instanceMethod yX0_hasScribe ∈ GW := GW_of (tb2 (i := 149) rfl) rfl
theorem gC_X0_hasScribe : Cond.code yX0_hasScribe cX0_hasScribe 2 (Option.some .boolean) ∈ GW := GW_of (tb2 (i := 150) rfl) rfl
theorem gM_X0_45 : Cond.methodLink RX0 45 yX0_bentOf ∈ GW := GW_of (tb2 (i := 151) rfl) rfl
theorem gI_X0_bentOf : Cond.instanceMethod yX0_bentOf ∈ GW := GW_of (tb2 (i := 153) rfl) rfl
theorem gC_X0_bentOf : Cond.code yX0_bentOf cX0_bentOf 2 (Option.some .int) ∈ GW := GW_of (tb2 (i := 154) rfl) rfl
theorem gM_X0_48 : Cond.methodLink RX0 48 yX0_said ∈ GW := GW_of (tb2 (i := 155) rfl) rfl
theorem gS_X0_said : Cond.static yX0_said ∈ GW := GW_of (tb2 (i := 156) rfl) rfl
theorem gC_X0_said : Cond.code yX0_said cX0_said 4 (Option.some .int) ∈ GW := GW_of (tb2 (i := 157) rfl) rfl
theorem gM_X0_65 : Cond.methodLink RX0 65 yJ6_bitCount_0f7a4 ∈ GW := GW_of (tb2 (i := 158) rfl) rfl
theorem gS_J6_bitCount_0f7a4 : Cond.static yJ6_bitCount_0f7a4 ∈ GW := GW_of (tb2 (i := 159) rfl) rfl
theorem gC_J6_bitCount_0f7a4 : Cond.code yJ6_bitCount_0f7a4 cJ6_bitCount_0f7a4 1 (Option.some .int) ∈ GW := GW_of (tb2 (i := 160) rfl) rfl
theorem gK_J6_265 : Cond.constant RJ6 265 (1431655765) ∈ GW := GW_of (tb2 (i := 161) rfl) rfl
theorem gK_J6_266 : Cond.constant RJ6 266 (858993459) ∈ GW := GW_of (tb2 (i := 162) rfl) rfl
theorem gK_J6_267 : Cond.constant RJ6 267 (252645135) ∈ GW := GW_of (tb2 (i := 163) rfl) rfl
theorem nM_X1_36_l : Cond.methodLinkNest RX1 36 yX0_becomes "MarginBooks" ∈ lw_tbl := tb2 (i := 164) rfl
theorem gI_X0_becomes : Cond.instanceMethod yX0_becomes ∈ GW := GW_of (tb2 (i := 166) rfl) rfl
theorem gC_X0_becomes : Cond.code yX0_becomes cX0_becomes 7 (Option.some .int) ∈ GW := GW_of (tb2 (i := 167) rfl) rfl
theorem nM_X8_99_l : Cond.methodLinkNest RX8 99 yX6_begin "MarginBooks" ∈ lw_tbl := tb2 (i := 168) rfl
theorem gI_X6_begin : Cond.instanceMethod yX6_begin ∈ GW := GW_of (tb2 (i := 170) rfl) rfl
theorem gC_X6_begin : Cond.code yX6_begin cX6_begin 3 none ∈ GW := GW_of (tb2 (i := 171) rfl) rfl
theorem gM_X6_20 : Cond.methodLink RX6 20 yX6_put ∈ GW := GW_of (tb2 (i := 172) rfl) rfl
theorem gI_X6_put : Cond.instanceMethod yX6_put ∈ GW := GW_of (tb2 (i := 174) rfl) rfl
theorem gC_X6_put : Cond.code yX6_put cX6_put 3 none ∈ GW := GW_of (tb2 (i := 175) rfl) rfl
theorem nM_X8_106_l : Cond.methodLinkNest RX8 106 yX2_empty "MarginBooks" ∈ lw_tbl := tb2 (i := 176) rfl
theorem gI_X2_empty : Cond.instanceMethod yX2_empty ∈ GW := GW_of (tb2 (i := 178) rfl) rfl
theorem gC_X2_empty : Cond.code yX2_empty cX2_empty 2 (Option.some .int) ∈ GW := GW_of (tb2 (i := 179) rfl) rfl
theorem gM_L_27 : Cond.methodLink RL 27 yX8_line ∈ GW := GW_of (tb2 (i := 180) rfl) rfl
theorem gI_X8_line : Cond.instanceMethod yX8_line ∈ GW := GW_of (tb2 (i := 181) rfl) rfl
theorem gE_X8_line : Cond.selects RX8 yX8_line yX8_line ∈ GW := GW_of (tb2 (i := 182) rfl) rfl
theorem gC_X8_line : Cond.code yX8_line cX8_line 3 (Option.some .int) ∈ GW := GW_of (tb2 (i := 183) rfl) rfl
theorem nM_X8_114_l : Cond.methodLinkNest RX8 114 yX0_hasLine "MarginBooks" ∈ lw_tbl := tb2 (i := 184) rfl
theorem gI_X0_hasLine : Cond.instanceMethod yX0_hasLine ∈ GW := GW_of (tb2 (i := 186) rfl) rfl
theorem gC_X0_hasLine : Cond.code yX0_hasLine cX0_hasLine 2 (Option.some .boolean) ∈ GW := GW_of (tb2 (i := 187) rfl) rfl
theorem nM_X8_117_l : Cond.methodLinkNest RX8 117 yX6_book "MarginBooks" ∈ lw_tbl := tb2 (i := 188) rfl
theorem gI_X6_book : Cond.instanceMethod yX6_book ∈ GW := GW_of (tb2 (i := 190) rfl) rfl
theorem gC_X6_book : Cond.code yX6_book cX6_book 1 (Option.some .int) ∈ GW := GW_of (tb2 (i := 191) rfl) rfl
theorem gM_X6_24 : Cond.methodLink RX6 24 yX6_at ∈ GW := GW_of (tb2 (i := 192) rfl) rfl
theorem gI_X6_at : Cond.instanceMethod yX6_at ∈ GW := GW_of (tb2 (i := 194) rfl) rfl
theorem gC_X6_at : Cond.code yX6_at cX6_at 2 (Option.some .int) ∈ GW := GW_of (tb2 (i := 195) rfl) rfl
theorem nM_X8_120_l : Cond.methodLinkNest RX8 120 yX0_lineOf "MarginBooks" ∈ lw_tbl := tb2 (i := 196) rfl
theorem gI_X0_lineOf : Cond.instanceMethod yX0_lineOf ∈ GW := GW_of (tb2 (i := 198) rfl) rfl
theorem gC_X0_lineOf : Cond.code yX0_lineOf cX0_lineOf 4 (Option.some .int) ∈ GW := GW_of (tb2 (i := 199) rfl) rfl
theorem gM_X0_52 : Cond.methodLink RX0 52 yX0_weightOf ∈ GW := GW_of (tb2 (i := 200) rfl) rfl
theorem gI_X0_weightOf : Cond.instanceMethod yX0_weightOf ∈ GW := GW_of (tb2 (i := 202) rfl) rfl
theorem gC_X0_weightOf : Cond.code yX0_weightOf cX0_weightOf 4 (Option.some .int) ∈ GW := GW_of (tb2 (i := 203) rfl) rfl
theorem gM_L_32 : Cond.methodLink RL 32 yX8_scribe ∈ GW := GW_of (tb2 (i := 204) rfl) rfl
theorem gI_X8_scribe : Cond.instanceMethod yX8_scribe ∈ GW := GW_of (tb2 (i := 205) rfl) rfl
theorem gE_X8_scribe : Cond.selects RX8 yX8_scribe yX8_scribe ∈ GW := GW_of (tb2 (i := 206) rfl) rfl
theorem gC_X8_scribe : Cond.code yX8_scribe cX8_scribe 4 (Option.some .int) ∈ GW := GW_of (tb2 (i := 207) rfl) rfl
theorem nM_X8_124_l : Cond.methodLinkNest RX8 124 yX0_hasScribe "MarginBooks" ∈ lw_tbl := tb2 (i := 208) rfl
theorem nM_X8_127_l : Cond.methodLinkNest RX8 127 yX0_turnOf "MarginBooks" ∈ lw_tbl := tb2 (i := 209) rfl
theorem nM_X8_131_l : Cond.methodLinkNest RX8 131 yX0_bentOf "MarginBooks" ∈ lw_tbl := tb2 (i := 210) rfl
theorem nM_X8_134_l : Cond.methodLinkNest RX8 134 yX6_isReleased "MarginBooks" ∈ lw_tbl := tb2 (i := 211) rfl
theorem gI_X6_isReleased : Cond.instanceMethod yX6_isReleased ∈ GW := GW_of (tb2 (i := 213) rfl) rfl
theorem gC_X6_isReleased : Cond.code yX6_isReleased cX6_isReleased 2 (Option.some .boolean) ∈ GW := GW_of (tb2 (i := 214) rfl) rfl
theorem gM_X6_28 : Cond.methodLink RX6 28 yX6_released ∈ GW := GW_of (tb2 (i := 215) rfl) rfl
theorem gI_X6_released : Cond.instanceMethod yX6_released ∈ GW := GW_of (tb2 (i := 217) rfl) rfl
theorem gC_X6_released : Cond.code yX6_released cX6_released 1 (Option.some .int) ∈ GW := GW_of (tb2 (i := 218) rfl) rfl
theorem nM_X8_137_l : Cond.methodLinkNest RX8 137 yX6_timesOf "MarginBooks" ∈ lw_tbl := tb2 (i := 219) rfl
theorem gI_X6_timesOf : Cond.instanceMethod yX6_timesOf ∈ GW := GW_of (tb2 (i := 221) rfl) rfl
theorem gC_X6_timesOf : Cond.code yX6_timesOf cX6_timesOf 2 (Option.some .int) ∈ GW := GW_of (tb2 (i := 222) rfl) rfl
theorem nM_X8_140_l : Cond.methodLinkNest RX8 140 yX0_unlikeLines "MarginBooks" ∈ lw_tbl := tb2 (i := 223) rfl
theorem nM_X8_143_l : Cond.methodLinkNest RX8 143 yX0_isConvinced "MarginBooks" ∈ lw_tbl := tb2 (i := 224) rfl
theorem nM_X8_147_l : Cond.methodLinkNest RX8 147 yX0_comesRound "MarginBooks" ∈ lw_tbl := tb2 (i := 225) rfl
theorem gI_X0_comesRound : Cond.instanceMethod yX0_comesRound ∈ GW := GW_of (tb2 (i := 227) rfl) rfl
theorem gC_X0_comesRound : Cond.code yX0_comesRound cX0_comesRound 5 (Option.some .int) ∈ GW := GW_of (tb2 (i := 228) rfl) rfl
theorem gM_X0_70 : Cond.methodLink RX0 70 yX0_becomes ∈ GW := GW_of (tb2 (i := 229) rfl) rfl
theorem gM_L_36 : Cond.methodLink RL 36 yX8_says ∈ GW := GW_of (tb2 (i := 230) rfl) rfl
theorem gI_X8_says : Cond.instanceMethod yX8_says ∈ GW := GW_of (tb2 (i := 231) rfl) rfl
theorem gE_X8_says : Cond.selects RX8 yX8_says yX8_says ∈ GW := GW_of (tb2 (i := 232) rfl) rfl
theorem gC_X8_says : Cond.code yX8_says cX8_says 3 (Option.some .int) ∈ GW := GW_of (tb2 (i := 233) rfl) rfl
theorem nM_X8_150_l : Cond.methodLinkNest RX8 150 yX0_hasOpinion "MarginBooks" ∈ lw_tbl := tb2 (i := 234) rfl
theorem nM_X8_153_l : Cond.methodLinkNest RX8 153 yX0_saidBy "MarginBooks" ∈ lw_tbl := tb2 (i := 235) rfl
theorem gM_L_40 : Cond.methodLink RL 40 yX8_copies ∈ GW := GW_of (tb2 (i := 236) rfl) rfl
theorem gI_X8_copies : Cond.instanceMethod yX8_copies ∈ GW := GW_of (tb2 (i := 237) rfl) rfl
theorem gE_X8_copies : Cond.selects RX8 yX8_copies yX8_copies ∈ GW := GW_of (tb2 (i := 238) rfl) rfl
theorem gC_X8_copies : Cond.code yX8_copies cX8_copies 3 (Option.some .int) ∈ GW := GW_of (tb2 (i := 239) rfl) rfl
theorem nM_X8_156_l : Cond.methodLinkNest RX8 156 yX6_copiesNow "MarginBooks" ∈ lw_tbl := tb3 (i := 0) rfl
theorem gI_X6_copiesNow : Cond.instanceMethod yX6_copiesNow ∈ GW := GW_of (tb3 (i := 2) rfl) rfl
theorem gC_X6_copiesNow : Cond.code yX6_copiesNow cX6_copiesNow 1 (Option.some .int) ∈ GW := GW_of (tb3 (i := 3) rfl) rfl
theorem nM_X8_159_l : Cond.methodLinkNest RX8 159 yX6_remember "MarginBooks" ∈ lw_tbl := tb3 (i := 4) rfl
theorem gI_X6_remember : Cond.instanceMethod yX6_remember ∈ GW := GW_of (tb3 (i := 6) rfl) rfl
theorem gC_X6_remember : Cond.code yX6_remember cX6_remember 2 none ∈ GW := GW_of (tb3 (i := 7) rfl) rfl
theorem gM_X6_38 : Cond.methodLink RX6 38 yX6_copyRow ∈ GW := GW_of (tb3 (i := 8) rfl) rfl
theorem gI_X6_copyRow : Cond.instanceMethod yX6_copyRow ∈ GW := GW_of (tb3 (i := 10) rfl) rfl
theorem gC_X6_copyRow : Cond.code yX6_copyRow cX6_copyRow 4 none ∈ GW := GW_of (tb3 (i := 11) rfl) rfl
theorem gM_X6_42 : Cond.methodLink RX6 42 arraycopyName ∈ GW := GW_of (tb3 (i := 12) rfl) rfl
theorem gS_arraycopy : Cond.static arraycopyName ∈ GW := GW_of (tb3 (i := 13) rfl) rfl
theorem gZ_arraycopy : Cond.native arraycopyName ∈ GW := GW_of (tb3 (i := 14) rfl) rfl
theorem nM_X8_162_l : Cond.methodLinkNest RX8 162 yX0_becomes "MarginBooks" ∈ lw_tbl := tb3 (i := 15) rfl
theorem nM_X8_165_l : Cond.methodLinkNest RX8 165 yX6_copied "MarginBooks" ∈ lw_tbl := tb3 (i := 16) rfl
theorem gI_X6_copied : Cond.instanceMethod yX6_copied ∈ GW := GW_of (tb3 (i := 18) rfl) rfl
theorem gC_X6_copied : Cond.code yX6_copied cX6_copied 3 none ∈ GW := GW_of (tb3 (i := 19) rfl) rfl
theorem gM_X6_32 : Cond.methodLink RX6 32 yX6_copiesNow ∈ GW := GW_of (tb3 (i := 20) rfl) rfl
theorem gM_X6_35 : Cond.methodLink RX6 35 yX6_timesOf ∈ GW := GW_of (tb3 (i := 21) rfl) rfl
theorem gM_L_44 : Cond.methodLink RL 44 yX8_errs ∈ GW := GW_of (tb3 (i := 22) rfl) rfl
theorem gI_X8_errs : Cond.instanceMethod yX8_errs ∈ GW := GW_of (tb3 (i := 23) rfl) rfl
theorem gE_X8_errs : Cond.selects RX8 yX8_errs yX8_errs ∈ GW := GW_of (tb3 (i := 24) rfl) rfl
theorem gC_X8_errs : Cond.code yX8_errs cX8_errs 5 (Option.some .int) ∈ GW := GW_of (tb3 (i := 25) rfl) rfl
theorem nM_X8_169_l : Cond.methodLinkNest RX8 169 yX0_withLine "MarginBooks" ∈ lw_tbl := tb3 (i := 26) rfl
theorem gI_X0_withLine : Cond.instanceMethod yX0_withLine ∈ GW := GW_of (tb3 (i := 28) rfl) rfl
theorem gC_X0_withLine : Cond.code yX0_withLine cX0_withLine 4 (Option.some .int) ∈ GW := GW_of (tb3 (i := 29) rfl) rfl
theorem gM_X0_55 : Cond.methodLink RX0 55 yX0_lineOf ∈ GW := GW_of (tb3 (i := 30) rfl) rfl
theorem nM_X8_173_l : Cond.methodLinkNest RX8 173 yX6_setBook "MarginBooks" ∈ lw_tbl := tb3 (i := 31) rfl
theorem gI_X6_setBook : Cond.instanceMethod yX6_setBook ∈ GW := GW_of (tb3 (i := 33) rfl) rfl
theorem gC_X6_setBook : Cond.code yX6_setBook cX6_setBook 2 none ∈ GW := GW_of (tb3 (i := 34) rfl) rfl
theorem gM_L_48 : Cond.methodLink RL 48 yX8_releases ∈ GW := GW_of (tb3 (i := 35) rfl) rfl
theorem gI_X8_releases : Cond.instanceMethod yX8_releases ∈ GW := GW_of (tb3 (i := 36) rfl) rfl
theorem gE_X8_releases : Cond.selects RX8 yX8_releases yX8_releases ∈ GW := GW_of (tb3 (i := 37) rfl) rfl
theorem gC_X8_releases : Cond.code yX8_releases cX8_releases 3 (Option.some .int) ∈ GW := GW_of (tb3 (i := 38) rfl) rfl
theorem nM_X8_176_l : Cond.methodLinkNest RX8 176 yX6_turnReleased "MarginBooks" ∈ lw_tbl := tb3 (i := 39) rfl
theorem gI_X6_turnReleased : Cond.instanceMethod yX6_turnReleased ∈ GW := GW_of (tb3 (i := 41) rfl) rfl
theorem gC_X6_turnReleased : Cond.code yX6_turnReleased cX6_turnReleased 2 none ∈ GW := GW_of (tb3 (i := 42) rfl) rfl
theorem nM_X8_179_l : Cond.methodLinkNest RX8 179 yX6_released "MarginBooks" ∈ lw_tbl := tb3 (i := 43) rfl
theorem gM_X8_182 : Cond.methodLink RX8 182 yJ6_bitCount_0f7a4 ∈ GW := GW_of (tb3 (i := 44) rfl) rfl
theorem gM_L_52 : Cond.methodLink RL 52 yX8_aims ∈ GW := GW_of (tb3 (i := 45) rfl) rfl
theorem gI_X8_aims : Cond.instanceMethod yX8_aims ∈ GW := GW_of (tb3 (i := 46) rfl) rfl
theorem gE_X8_aims : Cond.selects RX8 yX8_aims yX8_aims ∈ GW := GW_of (tb3 (i := 47) rfl) rfl
theorem gC_X8_aims : Cond.code yX8_aims cX8_aims 4 (Option.some .int) ∈ GW := GW_of (tb3 (i := 48) rfl) rfl
theorem gM_L_56 : Cond.methodLink RL 56 yX8_undo ∈ GW := GW_of (tb3 (i := 49) rfl) rfl
theorem gI_X8_undo : Cond.instanceMethod yX8_undo ∈ GW := GW_of (tb3 (i := 50) rfl) rfl
theorem gE_X8_undo : Cond.selects RX8 yX8_undo yX8_undo ∈ GW := GW_of (tb3 (i := 51) rfl) rfl
theorem gC_X8_undo : Cond.code yX8_undo cX8_undo 1 (Option.some .int) ∈ GW := GW_of (tb3 (i := 52) rfl) rfl
theorem nM_X8_187_l : Cond.methodLinkNest RX8 187 yX6_takeBack "MarginBooks" ∈ lw_tbl := tb3 (i := 53) rfl
theorem gI_X6_takeBack : Cond.instanceMethod yX6_takeBack ∈ GW := GW_of (tb3 (i := 55) rfl) rfl
theorem gC_X6_takeBack : Cond.code yX6_takeBack cX6_takeBack 1 (Option.some .boolean) ∈ GW := GW_of (tb3 (i := 56) rfl) rfl
theorem gM_L_60 : Cond.methodLink RL 60 yX8_now ∈ GW := GW_of (tb3 (i := 57) rfl) rfl
theorem gI_X8_now : Cond.instanceMethod yX8_now ∈ GW := GW_of (tb3 (i := 58) rfl) rfl
theorem gE_X8_now : Cond.selects RX8 yX8_now yX8_now ∈ GW := GW_of (tb3 (i := 59) rfl) rfl
theorem gC_X8_now : Cond.code yX8_now cX8_now 2 (Option.some .int) ∈ GW := GW_of (tb3 (i := 60) rfl) rfl
theorem gM_X8_194 : Cond.methodLink RX8 194 yX8_convinced ∈ GW := GW_of (tb3 (i := 61) rfl) rfl
theorem gI_X8_convinced : Cond.instanceMethod yX8_convinced ∈ GW := GW_of (tb3 (i := 63) rfl) rfl
theorem gC_X8_convinced : Cond.code yX8_convinced cX8_convinced 3 (Option.some .int) ∈ GW := GW_of (tb3 (i := 64) rfl) rfl
theorem nM_X8_197_l : Cond.methodLinkNest RX8 197 yX7_lastCopiers "MarginBooks" ∈ lw_tbl := tb3 (i := 65) rfl
theorem gI_X7_lastCopiers : Cond.instanceMethod yX7_lastCopiers ∈ GW := GW_of (tb3 (i := 67) rfl) rfl
theorem gC_X7_lastCopiers : Cond.code yX7_lastCopiers cX7_lastCopiers 4 (Option.some .int) ∈ GW := GW_of (tb3 (i := 68) rfl) rfl
theorem gM_X7_59 : Cond.methodLink RX7 59 yX7_countBefore ∈ GW := GW_of (tb3 (i := 69) rfl) rfl
theorem gI_X7_countBefore : Cond.instanceMethod yX7_countBefore ∈ GW := GW_of (tb3 (i := 71) rfl) rfl
theorem gC_X7_countBefore : Cond.code yX7_countBefore cX7_countBefore 5 (Option.some .int) ∈ GW := GW_of (tb3 (i := 72) rfl) rfl
theorem nM_X7_40_l : Cond.methodLinkNest RX7 40 yX1_copyBy "MarginBooks" ∈ lw_tbl := tb3 (i := 73) rfl
theorem gI_X1_copyBy : Cond.instanceMethod yX1_copyBy ∈ GW := GW_of (tb3 (i := 75) rfl) rfl
theorem gC_X1_copyBy : Cond.code yX1_copyBy cX1_copyBy 3 (Option.some .int) ∈ GW := GW_of (tb3 (i := 76) rfl) rfl
theorem nM_X8_200_l : Cond.methodLinkNest RX8 200 yX7_sameLines "MarginBooks" ∈ lw_tbl := tb3 (i := 77) rfl
theorem gI_X7_sameLines : Cond.instanceMethod yX7_sameLines ∈ GW := GW_of (tb3 (i := 79) rfl) rfl
theorem gC_X7_sameLines : Cond.code yX7_sameLines cX7_sameLines 7 (Option.some .int) ∈ GW := GW_of (tb3 (i := 80) rfl) rfl
theorem gM_X7_67 : Cond.methodLink RX7 67 yX7_alikeLines ∈ GW := GW_of (tb3 (i := 81) rfl) rfl
theorem gS_X7_alikeLines : Cond.static yX7_alikeLines ∈ GW := GW_of (tb3 (i := 82) rfl) rfl
theorem gC_X7_alikeLines : Cond.code yX7_alikeLines cX7_alikeLines 5 (Option.some .int) ∈ GW := GW_of (tb3 (i := 83) rfl) rfl
theorem nM_X7_71_l : Cond.methodLinkNest RX7 71 yX0_lineOf "MarginBooks" ∈ lw_tbl := tb3 (i := 84) rfl
theorem nM_X8_204_l : Cond.methodLinkNest RX8 204 yX2_fittingScribes "MarginBooks" ∈ lw_tbl := tb3 (i := 85) rfl
theorem gI_X2_fittingScribes : Cond.instanceMethod yX2_fittingScribes ∈ GW := GW_of (tb3 (i := 87) rfl) rfl
theorem gC_X2_fittingScribes : Cond.code yX2_fittingScribes cX2_fittingScribes 4 (Option.some .int) ∈ GW := GW_of (tb3 (i := 88) rfl) rfl
theorem nM_X2_44_l : Cond.methodLinkNest RX2 44 yX0_turnOf "MarginBooks" ∈ lw_tbl := tb3 (i := 89) rfl
theorem nM_X2_47_l : Cond.methodLinkNest RX2 47 yX0_bentOf "MarginBooks" ∈ lw_tbl := tb3 (i := 90) rfl
theorem gM_X2_27 : Cond.methodLink RX2 27 yX2_fits ∈ GW := GW_of (tb3 (i := 91) rfl) rfl
theorem gI_X2_fits : Cond.instanceMethod yX2_fits ∈ GW := GW_of (tb3 (i := 93) rfl) rfl
theorem gC_X2_fits : Cond.code yX2_fits cX2_fits 5 (Option.some .boolean) ∈ GW := GW_of (tb3 (i := 94) rfl) rfl
theorem nM_X2_22_l : Cond.methodLinkNest RX2 22 yX0_said "MarginBooks" ∈ lw_tbl := tb3 (i := 95) rfl
theorem gM_L_64 : Cond.methodLink RL 64 yX8_behind ∈ GW := GW_of (tb3 (i := 96) rfl) rfl
theorem gI_X8_behind : Cond.instanceMethod yX8_behind ∈ GW := GW_of (tb3 (i := 97) rfl) rfl
theorem gE_X8_behind : Cond.selects RX8 yX8_behind yX8_behind ∈ GW := GW_of (tb3 (i := 98) rfl) rfl
theorem gC_X8_behind : Cond.code yX8_behind cX8_behind 3 (Option.some .int) ∈ GW := GW_of (tb3 (i := 99) rfl) rfl
theorem gM_X8_213 : Cond.methodLink RX8 213 yX8_bought ∈ GW := GW_of (tb3 (i := 100) rfl) rfl
theorem gI_X8_bought : Cond.instanceMethod yX8_bought ∈ GW := GW_of (tb3 (i := 102) rfl) rfl
theorem gC_X8_bought : Cond.code yX8_bought cX8_bought 1 (Option.some .int) ∈ GW := GW_of (tb3 (i := 103) rfl) rfl
theorem nM_X8_210_l : Cond.methodLinkNest RX8 210 yX0_allScribes "MarginBooks" ∈ lw_tbl := tb3 (i := 104) rfl
theorem gI_X0_allScribes : Cond.instanceMethod yX0_allScribes ∈ GW := GW_of (tb3 (i := 106) rfl) rfl
theorem gC_X0_allScribes : Cond.code yX0_allScribes cX0_allScribes 1 (Option.some .int) ∈ GW := GW_of (tb3 (i := 107) rfl) rfl
theorem nM_X8_216_l : Cond.methodLinkNest RX8 216 yX5_run "MarginBooks" ∈ lw_tbl := tb3 (i := 108) rfl
theorem gI_X5_run : Cond.instanceMethod yX5_run ∈ GW := GW_of (tb3 (i := 110) rfl) rfl
theorem gC_X5_run : Cond.code yX5_run cX5_run 7 none ∈ GW := GW_of (tb3 (i := 111) rfl) rfl
theorem gM_X5_29 : Cond.methodLink RX5 29 yX5_boughtFrom ∈ GW := GW_of (tb3 (i := 112) rfl) rfl
theorem gS_X5_boughtFrom : Cond.static yX5_boughtFrom ∈ GW := GW_of (tb3 (i := 113) rfl) rfl
theorem gC_X5_boughtFrom : Cond.code yX5_boughtFrom cX5_boughtFrom 4 (Option.some .int) ∈ GW := GW_of (tb3 (i := 114) rfl) rfl
theorem nM_X5_33_l : Cond.methodLinkNest RX5 33 yX1_copyBy "MarginBooks" ∈ lw_tbl := tb3 (i := 115) rfl
theorem gM_L_68 : Cond.methodLink RL 68 yX8_ends ∈ GW := GW_of (tb3 (i := 116) rfl) rfl
theorem gI_X8_ends : Cond.instanceMethod yX8_ends ∈ GW := GW_of (tb3 (i := 117) rfl) rfl
theorem gE_X8_ends : Cond.selects RX8 yX8_ends yX8_ends ∈ GW := GW_of (tb3 (i := 118) rfl) rfl
theorem gC_X8_ends : Cond.code yX8_ends cX8_ends 2 (Option.some .int) ∈ GW := GW_of (tb3 (i := 119) rfl) rfl
theorem nM_X8_222_l : Cond.methodLinkNest RX8 222 yX5_runToEnd "MarginBooks" ∈ lw_tbl := tb3 (i := 120) rfl
theorem gI_X5_runToEnd : Cond.instanceMethod yX5_runToEnd ∈ GW := GW_of (tb3 (i := 122) rfl) rfl
theorem gC_X5_runToEnd : Cond.code yX5_runToEnd cX5_runToEnd 3 none ∈ GW := GW_of (tb3 (i := 123) rfl) rfl
theorem gM_X5_44 : Cond.methodLink RX5 44 yX5_run ∈ GW := GW_of (tb3 (i := 124) rfl) rfl
theorem gM_L_72 : Cond.methodLink RL 72 yX8_lasts ∈ GW := GW_of (tb3 (i := 125) rfl) rfl
theorem gI_X8_lasts : Cond.instanceMethod yX8_lasts ∈ GW := GW_of (tb3 (i := 126) rfl) rfl
theorem gE_X8_lasts : Cond.selects RX8 yX8_lasts yX8_lasts ∈ GW := GW_of (tb3 (i := 127) rfl) rfl
theorem gC_X8_lasts : Cond.code yX8_lasts cX8_lasts 3 (Option.some .int) ∈ GW := GW_of (tb3 (i := 128) rfl) rfl
theorem nM_X8_237_l : Cond.methodLinkNest RX8 237 yX5_longestBook "MarginBooks" ∈ lw_tbl := tb3 (i := 129) rfl
theorem gI_X5_longestBook : Cond.instanceMethod yX5_longestBook ∈ GW := GW_of (tb3 (i := 131) rfl) rfl
theorem gC_X5_longestBook : Cond.code yX5_longestBook cX5_longestBook 5 (Option.some .int) ∈ GW := GW_of (tb3 (i := 132) rfl) rfl
theorem gM_X5_48 : Cond.methodLink RX5 48 yX5_runToEnd ∈ GW := GW_of (tb3 (i := 133) rfl) rfl
theorem gM_L_76 : Cond.methodLink RL 76 yX8_buy ∈ GW := GW_of (tb3 (i := 134) rfl) rfl
theorem gI_X8_buy : Cond.instanceMethod yX8_buy ∈ GW := GW_of (tb3 (i := 135) rfl) rfl
theorem gE_X8_buy : Cond.selects RX8 yX8_buy yX8_buy ∈ GW := GW_of (tb3 (i := 136) rfl) rfl
theorem gC_X8_buy : Cond.code yX8_buy cX8_buy 2 (Option.some .int) ∈ GW := GW_of (tb3 (i := 137) rfl) rfl
theorem nM_X8_240_l : Cond.methodLinkNest RX8 240 yX5_fewestToBuy "MarginBooks" ∈ lw_tbl := tb3 (i := 138) rfl
theorem gI_X5_fewestToBuy : Cond.instanceMethod yX5_fewestToBuy ∈ GW := GW_of (tb3 (i := 140) rfl) rfl
theorem gC_X5_fewestToBuy : Cond.code yX5_fewestToBuy cX5_fewestToBuy 7 (Option.some .int) ∈ GW := GW_of (tb3 (i := 141) rfl) rfl
theorem gM_X5_52 : Cond.methodLink RX5 52 yJ6_bitCount_0f7a4 ∈ GW := GW_of (tb3 (i := 142) rfl) rfl
theorem gM_X5_58 : Cond.methodLink RX5 58 yX5_reaches ∈ GW := GW_of (tb3 (i := 143) rfl) rfl
theorem gI_X5_reaches : Cond.instanceMethod yX5_reaches ∈ GW := GW_of (tb3 (i := 145) rfl) rfl
theorem gC_X5_reaches : Cond.code yX5_reaches cX5_reaches 4 (Option.some .boolean) ∈ GW := GW_of (tb3 (i := 146) rfl) rfl
theorem gM_L_80 : Cond.methodLink RL 80 yX8_odds ∈ GW := GW_of (tb3 (i := 147) rfl) rfl
theorem gI_X8_odds : Cond.instanceMethod yX8_odds ∈ GW := GW_of (tb3 (i := 148) rfl) rfl
theorem gE_X8_odds : Cond.selects RX8 yX8_odds yX8_odds ∈ GW := GW_of (tb3 (i := 149) rfl) rfl
theorem gC_X8_odds : Cond.code yX8_odds cX8_odds 6 (Option.some .int) ∈ GW := GW_of (tb3 (i := 150) rfl) rfl
theorem nM_X8_244_l : Cond.methodLinkNest RX8 244 yX5_reaches "MarginBooks" ∈ lw_tbl := tb3 (i := 151) rfl
theorem gM_X8_248 : Cond.methodLink RX8 248 yX8_commonDivisor ∈ GW := GW_of (tb3 (i := 152) rfl) rfl
theorem gS_X8_commonDivisor : Cond.static yX8_commonDivisor ∈ GW := GW_of (tb3 (i := 153) rfl) rfl
theorem gC_X8_commonDivisor : Cond.code yX8_commonDivisor cX8_commonDivisor 6 (Option.some .int) ∈ GW := GW_of (tb3 (i := 154) rfl) rfl
theorem gM_X8_251 : Cond.methodLink RX8 251 yX8_power ∈ GW := GW_of (tb3 (i := 155) rfl) rfl
theorem gS_X8_power : Cond.static yX8_power ∈ GW := GW_of (tb3 (i := 156) rfl) rfl
theorem gC_X8_power : Cond.code yX8_power cX8_power 4 (Option.some .int) ∈ GW := GW_of (tb3 (i := 157) rfl) rfl
theorem gM_L_85 : Cond.methodLink RL 85 yX8_way ∈ GW := GW_of (tb3 (i := 158) rfl) rfl
theorem gI_X8_way : Cond.instanceMethod yX8_way ∈ GW := GW_of (tb3 (i := 159) rfl) rfl
theorem gE_X8_way : Cond.selects RX8 yX8_way yX8_way ∈ GW := GW_of (tb3 (i := 160) rfl) rfl
theorem gC_X8_way : Cond.code yX8_way cX8_way 2 (Option.some .int) ∈ GW := GW_of (tb3 (i := 161) rfl) rfl
theorem nM_X8_254_l : Cond.methodLinkNest RX8 254 yX7_search "MarginBooks" ∈ lw_tbl := tb3 (i := 162) rfl
theorem gI_X7_search : Cond.instanceMethod yX7_search ∈ GW := GW_of (tb3 (i := 164) rfl) rfl
theorem gC_X7_search : Cond.code yX7_search cX7_search 7 none ∈ GW := GW_of (tb3 (i := 165) rfl) rfl
theorem gM_X7_32 : Cond.methodLink RX7 32 yX7_find ∈ GW := GW_of (tb3 (i := 166) rfl) rfl
theorem gI_X7_find : Cond.instanceMethod yX7_find ∈ GW := GW_of (tb3 (i := 168) rfl) rfl
theorem gC_X7_find : Cond.code yX7_find cX7_find 5 none ∈ GW := GW_of (tb3 (i := 169) rfl) rfl
theorem gM_X7_50 : Cond.methodLink RX7 50 yX7_isBook ∈ GW := GW_of (tb3 (i := 170) rfl) rfl
theorem gS_X7_isBook : Cond.static yX7_isBook ∈ GW := GW_of (tb3 (i := 171) rfl) rfl
theorem gC_X7_isBook : Cond.code yX7_isBook cX7_isBook 1 (Option.some .boolean) ∈ GW := GW_of (tb3 (i := 172) rfl) rfl
theorem gM_X7_36 : Cond.methodLink RX7 36 yX7_isFound ∈ GW := GW_of (tb3 (i := 173) rfl) rfl
theorem gI_X7_isFound : Cond.instanceMethod yX7_isFound ∈ GW := GW_of (tb3 (i := 175) rfl) rfl
theorem gC_X7_isFound : Cond.code yX7_isFound cX7_isFound 2 (Option.some .boolean) ∈ GW := GW_of (tb3 (i := 176) rfl) rfl
theorem gM_X7_46 : Cond.methodLink RX7 46 yX7_distanceOf ∈ GW := GW_of (tb3 (i := 177) rfl) rfl
theorem gI_X7_distanceOf : Cond.instanceMethod yX7_distanceOf ∈ GW := GW_of (tb3 (i := 179) rfl) rfl
theorem gC_X7_distanceOf : Cond.code yX7_distanceOf cX7_distanceOf 2 (Option.some .int) ∈ GW := GW_of (tb3 (i := 180) rfl) rfl
theorem nM_X8_257_l : Cond.methodLinkNest RX8 257 yX7_fewestCopies "MarginBooks" ∈ lw_tbl := tb3 (i := 181) rfl
theorem gI_X7_fewestCopies : Cond.instanceMethod yX7_fewestCopies ∈ GW := GW_of (tb3 (i := 183) rfl) rfl
theorem gC_X7_fewestCopies : Cond.code yX7_fewestCopies cX7_fewestCopies 2 (Option.some .int) ∈ GW := GW_of (tb3 (i := 184) rfl) rfl
theorem nM_X8_260_l : Cond.methodLinkNest RX8 260 yX7_scribeOfCopy "MarginBooks" ∈ lw_tbl := tb3 (i := 185) rfl
theorem gI_X7_scribeOfCopy : Cond.instanceMethod yX7_scribeOfCopy ∈ GW := GW_of (tb3 (i := 187) rfl) rfl
theorem gC_X7_scribeOfCopy : Cond.code yX7_scribeOfCopy cX7_scribeOfCopy 5 (Option.some .int) ∈ GW := GW_of (tb3 (i := 188) rfl) rfl
theorem gM_L_89 : Cond.methodLink RL 89 yX8_from ∈ GW := GW_of (tb3 (i := 189) rfl) rfl
theorem gI_X8_from : Cond.instanceMethod yX8_from ∈ GW := GW_of (tb3 (i := 190) rfl) rfl
theorem gE_X8_from : Cond.selects RX8 yX8_from yX8_from ∈ GW := GW_of (tb3 (i := 191) rfl) rfl
theorem gC_X8_from : Cond.code yX8_from cX8_from 2 (Option.some .int) ∈ GW := GW_of (tb3 (i := 192) rfl) rfl
theorem nM_X8_263_l : Cond.methodLinkNest RX8 263 yX7_countBefore "MarginBooks" ∈ lw_tbl := tb3 (i := 193) rfl
theorem gM_L_93 : Cond.methodLink RL 93 yX8_saw ∈ GW := GW_of (tb3 (i := 194) rfl) rfl
theorem gI_X8_saw : Cond.instanceMethod yX8_saw ∈ GW := GW_of (tb3 (i := 195) rfl) rfl
theorem gE_X8_saw : Cond.selects RX8 yX8_saw yX8_saw ∈ GW := GW_of (tb3 (i := 196) rfl) rfl
theorem gC_X8_saw : Cond.code yX8_saw cX8_saw 3 (Option.some .int) ∈ GW := GW_of (tb3 (i := 197) rfl) rfl
theorem nM_X8_266_l : Cond.methodLinkNest RX8 266 yX2_add "MarginBooks" ∈ lw_tbl := tb3 (i := 198) rfl
theorem gI_X2_add : Cond.instanceMethod yX2_add ∈ GW := GW_of (tb3 (i := 200) rfl) rfl
theorem gC_X2_add : Cond.code yX2_add cX2_add 3 (Option.some .boolean) ∈ GW := GW_of (tb3 (i := 201) rfl) rfl
theorem gM_L_97 : Cond.methodLink RL 97 yX8_forget ∈ GW := GW_of (tb3 (i := 202) rfl) rfl
theorem gI_X8_forget : Cond.instanceMethod yX8_forget ∈ GW := GW_of (tb3 (i := 203) rfl) rfl
theorem gE_X8_forget : Cond.selects RX8 yX8_forget yX8_forget ∈ GW := GW_of (tb3 (i := 204) rfl) rfl
theorem gC_X8_forget : Cond.code yX8_forget cX8_forget 1 (Option.some .int) ∈ GW := GW_of (tb3 (i := 205) rfl) rfl
theorem gM_L_101 : Cond.methodLink RL 101 yX8_fit ∈ GW := GW_of (tb3 (i := 206) rfl) rfl
theorem gI_X8_fit : Cond.instanceMethod yX8_fit ∈ GW := GW_of (tb3 (i := 207) rfl) rfl
theorem gE_X8_fit : Cond.selects RX8 yX8_fit yX8_fit ∈ GW := GW_of (tb3 (i := 208) rfl) rfl
theorem gC_X8_fit : Cond.code yX8_fit cX8_fit 2 (Option.some .int) ∈ GW := GW_of (tb3 (i := 209) rfl) rfl
theorem nM_X8_274_l : Cond.methodLinkNest RX8 274 yX2_countFits "MarginBooks" ∈ lw_tbl := tb3 (i := 210) rfl
theorem gI_X2_countFits : Cond.instanceMethod yX2_countFits ∈ GW := GW_of (tb3 (i := 212) rfl) rfl
theorem gC_X2_countFits : Cond.code yX2_countFits cX2_countFits 5 (Option.some .int) ∈ GW := GW_of (tb3 (i := 213) rfl) rfl
theorem nM_X8_277_l : Cond.methodLinkNest RX8 277 yX2_firstFit "MarginBooks" ∈ lw_tbl := tb3 (i := 214) rfl
theorem gI_X2_firstFit : Cond.instanceMethod yX2_firstFit ∈ GW := GW_of (tb3 (i := 216) rfl) rfl
theorem gC_X2_firstFit : Cond.code yX2_firstFit cX2_firstFit 4 (Option.some .int) ∈ GW := GW_of (tb3 (i := 217) rfl) rfl
theorem nM_X8_280_l : Cond.methodLinkNest RX8 280 yX2_mostTelling "MarginBooks" ∈ lw_tbl := tb3 (i := 218) rfl
theorem gI_X2_mostTelling : Cond.instanceMethod yX2_mostTelling ∈ GW := GW_of (tb3 (i := 220) rfl) rfl
theorem gC_X2_mostTelling : Cond.code yX2_mostTelling cX2_mostTelling 6 (Option.some .int) ∈ GW := GW_of (tb3 (i := 221) rfl) rfl
theorem gM_X2_31 : Cond.methodLink RX2 31 yX2_answersTo ∈ GW := GW_of (tb3 (i := 222) rfl) rfl
theorem gI_X2_answersTo : Cond.instanceMethod yX2_answersTo ∈ GW := GW_of (tb3 (i := 224) rfl) rfl
theorem gC_X2_answersTo : Cond.code yX2_answersTo cX2_answersTo 6 (Option.some .int) ∈ GW := GW_of (tb3 (i := 225) rfl) rfl
theorem gM_X2_35 : Cond.methodLink RX2 35 yJ6_bitCount_0f7a4 ∈ GW := GW_of (tb3 (i := 226) rfl) rfl
theorem gM_L_105 : Cond.methodLink RL 105 yX8_mark ∈ GW := GW_of (tb3 (i := 227) rfl) rfl
theorem gI_X8_mark : Cond.instanceMethod yX8_mark ∈ GW := GW_of (tb3 (i := 228) rfl) rfl
theorem gE_X8_mark : Cond.selects RX8 yX8_mark yX8_mark ∈ GW := GW_of (tb3 (i := 229) rfl) rfl
theorem gC_X8_mark : Cond.code yX8_mark cX8_mark 3 (Option.some .int) ∈ GW := GW_of (tb3 (i := 230) rfl) rfl
theorem nM_X8_283_l : Cond.methodLinkNest RX8 283 yX3_isKind "MarginBooks" ∈ lw_tbl := tb3 (i := 231) rfl
theorem gS_X3_isKind : Cond.static yX3_isKind ∈ GW := GW_of (tb3 (i := 232) rfl) rfl
theorem gC_X3_isKind : Cond.code yX3_isKind cX3_isKind 1 (Option.some .boolean) ∈ GW := GW_of (tb3 (i := 233) rfl) rfl
theorem gK_X8_286 : Cond.constant RX8 286 (-1000000) ∈ GW := GW_of (tb3 (i := 234) rfl) rfl
theorem nM_X8_300_l : Cond.methodLinkNest RX8 300 yX3_ask "MarginBooks" ∈ lw_tbl := tb3 (i := 235) rfl
theorem gI_X3_ask : Cond.instanceMethod yX3_ask ∈ GW := GW_of (tb3 (i := 237) rfl) rfl
theorem gC_X3_ask : Cond.code yX3_ask cX3_ask 4 (Option.some .int) ∈ GW := GW_of (tb3 (i := 238) rfl) rfl
theorem gM_X3_9 : Cond.methodLink RX3 9 yX3_isKind ∈ GW := GW_of (tb3 (i := 239) rfl) rfl
theorem gF_X3_17 : Cond.fieldLink RX3 17 "MarginBooks$Marks" "TRACED" "[I" ∈ GW := GW_of (tb4 (i := 0) rfl) rfl
theorem nX_X3_TRACED_l : Cond.laysStatic RX3 "TRACED" "[I" ∈ lw_tbl := tb4 (i := 1) rfl
theorem gF_X3_21 : Cond.fieldLink RX3 21 "MarginBooks$Marks" "ABOVE" "[I" ∈ GW := GW_of (tb4 (i := 2) rfl) rfl
theorem nX_X3_ABOVE_l : Cond.laysStatic RX3 "ABOVE" "[I" ∈ lw_tbl := tb4 (i := 3) rfl
theorem gM_X3_24 : Cond.methodLink RX3 24 yX3_ask ∈ GW := GW_of (tb4 (i := 4) rfl) rfl
theorem gM_L_109 : Cond.methodLink RL 109 yX8_keep ∈ GW := GW_of (tb4 (i := 5) rfl) rfl
theorem gI_X8_keep : Cond.instanceMethod yX8_keep ∈ GW := GW_of (tb4 (i := 6) rfl) rfl
theorem gE_X8_keep : Cond.selects RX8 yX8_keep yX8_keep ∈ GW := GW_of (tb4 (i := 7) rfl) rfl
theorem gC_X8_keep : Cond.code yX8_keep cX8_keep 2 (Option.some .int) ∈ GW := GW_of (tb4 (i := 8) rfl) rfl
theorem nM_X8_303_l : Cond.methodLinkNest RX8 303 yX6_become "MarginBooks" ∈ lw_tbl := tb4 (i := 9) rfl
theorem gI_X6_become : Cond.instanceMethod yX6_become ∈ GW := GW_of (tb4 (i := 11) rfl) rfl
theorem gC_X6_become : Cond.code yX6_become cX6_become 3 none ∈ GW := GW_of (tb4 (i := 12) rfl) rfl
theorem gM_L_113 : Cond.methodLink RL 113 yX8_back ∈ GW := GW_of (tb4 (i := 13) rfl) rfl
theorem gI_X8_back : Cond.instanceMethod yX8_back ∈ GW := GW_of (tb4 (i := 14) rfl) rfl
theorem gE_X8_back : Cond.selects RX8 yX8_back yX8_back ∈ GW := GW_of (tb4 (i := 15) rfl) rfl
theorem gC_X8_back : Cond.code yX8_back cX8_back 2 (Option.some .int) ∈ GW := GW_of (tb4 (i := 16) rfl) rfl
theorem gM_L_117 : Cond.methodLink RL 117 yX8_count ∈ GW := GW_of (tb4 (i := 17) rfl) rfl
theorem gI_X8_count : Cond.instanceMethod yX8_count ∈ GW := GW_of (tb4 (i := 18) rfl) rfl
theorem gE_X8_count : Cond.selects RX8 yX8_count yX8_count ∈ GW := GW_of (tb4 (i := 19) rfl) rfl
theorem gC_X8_count : Cond.code yX8_count cX8_count 2 (Option.some .int) ∈ GW := GW_of (tb4 (i := 20) rfl) rfl
theorem gM_L_121 : Cond.methodLink RL 121 yX8_trace ∈ GW := GW_of (tb4 (i := 21) rfl) rfl
theorem gI_X8_trace : Cond.instanceMethod yX8_trace ∈ GW := GW_of (tb4 (i := 22) rfl) rfl
theorem gE_X8_trace : Cond.selects RX8 yX8_trace yX8_trace ∈ GW := GW_of (tb4 (i := 23) rfl) rfl
theorem gC_X8_trace : Cond.code yX8_trace cX8_trace 1 (Option.some .long) ∈ GW := GW_of (tb4 (i := 24) rfl) rfl
theorem gL_L_10 : Cond.classLink RL 10 RX9 ∈ GW := GW_of (tb4 (i := 25) rfl) rfl
theorem gT_X9 : Cond.instantiable RX9 26 ∈ GW := GW_of (tb4 (i := 26) rfl) rfl
theorem gM_L_12 : Cond.methodLink RL 12 yX9_init ∈ GW := GW_of (tb4 (i := 27) rfl) rfl
theorem gI_X9_init : Cond.instanceMethod yX9_init ∈ GW := GW_of (tb4 (i := 28) rfl) rfl
theorem gC_X9_init : Cond.code yX9_init cX9_init 1 none ∈ GW := GW_of (tb4 (i := 29) rfl) rfl
theorem gM_X9_1 : Cond.methodLink RX9 1 objectInit ∈ GW := GW_of (tb4 (i := 30) rfl) rfl
theorem gM_X9_51 : Cond.methodLink RX9 51 yX9_plain ∈ GW := GW_of (tb4 (i := 31) rfl) rfl
theorem gI_X9_plain : Cond.instanceMethod yX9_plain ∈ GW := GW_of (tb4 (i := 33) rfl) rfl
theorem gC_X9_plain : Cond.code yX9_plain cX9_plain 1 none ∈ GW := GW_of (tb4 (i := 34) rfl) rfl
theorem gM_X9_54 : Cond.methodLink RX9 54 yX9_takeDraft ∈ GW := GW_of (tb4 (i := 35) rfl) rfl
theorem gI_X9_takeDraft : Cond.instanceMethod yX9_takeDraft ∈ GW := GW_of (tb4 (i := 37) rfl) rfl
theorem gC_X9_takeDraft : Cond.code yX9_takeDraft cX9_takeDraft 2 none ∈ GW := GW_of (tb4 (i := 38) rfl) rfl
theorem gF_X9_187 : Cond.fieldLink RX9 187 "MarginBooksModel" "trace" "J" ∈ GW := GW_of (tb4 (i := 39) rfl) rfl
theorem gF_X9_7 : Cond.fieldLink RX9 7 "MarginBooksModel" "text" "[B" ∈ GW := GW_of (tb4 (i := 40) rfl) rfl
theorem gF_X9_61 : Cond.fieldLink RX9 61 "MarginBooksModel" "typed" "I" ∈ GW := GW_of (tb4 (i := 41) rfl) rfl
theorem gF_X9_13 : Cond.fieldLink RX9 13 "MarginBooksModel" "opinions" "[I" ∈ GW := GW_of (tb4 (i := 42) rfl) rfl
theorem gF_X9_17 : Cond.fieldLink RX9 17 "MarginBooksModel" "lines" "[I" ∈ GW := GW_of (tb4 (i := 43) rfl) rfl
theorem gF_X9_20 : Cond.fieldLink RX9 20 "MarginBooksModel" "draftBook" "[I" ∈ GW := GW_of (tb4 (i := 44) rfl) rfl
theorem gF_X9_23 : Cond.fieldLink RX9 23 "MarginBooksModel" "scribes" "[I" ∈ GW := GW_of (tb4 (i := 45) rfl) rfl
theorem gF_X9_26 : Cond.fieldLink RX9 26 "MarginBooksModel" "turn" "[I" ∈ GW := GW_of (tb4 (i := 46) rfl) rfl
theorem gF_X9_29 : Cond.fieldLink RX9 29 "MarginBooksModel" "bent" "[I" ∈ GW := GW_of (tb4 (i := 47) rfl) rfl
theorem gF_X9_32 : Cond.fieldLink RX9 32 "MarginBooksModel" "need" "[I" ∈ GW := GW_of (tb4 (i := 48) rfl) rfl
theorem gF_X9_91 : Cond.fieldLink RX9 91 "MarginBooksModel" "needTold" "Z" ∈ GW := GW_of (tb4 (i := 49) rfl) rfl
theorem gF_X9_65 : Cond.fieldLink RX9 65 "MarginBooksModel" "at" "I" ∈ GW := GW_of (tb4 (i := 50) rfl) rfl
theorem gF_X9_72 : Cond.fieldLink RX9 72 "MarginBooksModel" "start" "I" ∈ GW := GW_of (tb4 (i := 51) rfl) rfl
theorem gF_X9_78 : Cond.fieldLink RX9 78 "MarginBooksModel" "sort" "I" ∈ GW := GW_of (tb4 (i := 52) rfl) rfl
theorem gF_X9_75 : Cond.fieldLink RX9 75 "MarginBooksModel" "value" "I" ∈ GW := GW_of (tb4 (i := 53) rfl) rfl
theorem gF_X9_81 : Cond.fieldLink RX9 81 "MarginBooksModel" "fault" "I" ∈ GW := GW_of (tb4 (i := 54) rfl) rfl
theorem gF_X9_35 : Cond.fieldLink RX9 35 "MarginBooksModel" "now" "[I" ∈ GW := GW_of (tb4 (i := 55) rfl) rfl
theorem gF_X9_38 : Cond.fieldLink RX9 38 "MarginBooksModel" "isKept" "[Z" ∈ GW := GW_of (tb4 (i := 56) rfl) rfl
theorem gF_X9_99 : Cond.fieldLink RX9 99 "MarginBooksModel" "target" "I" ∈ GW := GW_of (tb4 (i := 57) rfl) rfl
theorem gF_X9_167 : Cond.fieldLink RX9 167 "MarginBooksModel" "went" "I" ∈ GW := GW_of (tb4 (i := 58) rfl) rfl
theorem gF_X9_170 : Cond.fieldLink RX9 170 "MarginBooksModel" "ender" "I" ∈ GW := GW_of (tb4 (i := 59) rfl) rfl
theorem gF_X9_173 : Cond.fieldLink RX9 173 "MarginBooksModel" "had" "I" ∈ GW := GW_of (tb4 (i := 60) rfl) rfl
theorem gF_X9_42 : Cond.fieldLink RX9 42 "MarginBooksModel" "far" "[I" ∈ GW := GW_of (tb4 (i := 61) rfl) rfl
theorem gF_X9_45 : Cond.fieldLink RX9 45 "MarginBooksModel" "marginOf" "[I" ∈ GW := GW_of (tb4 (i := 62) rfl) rfl
theorem gF_X9_48 : Cond.fieldLink RX9 48 "MarginBooksModel" "marginSays" "[I" ∈ GW := GW_of (tb4 (i := 63) rfl) rfl
theorem gF_X9_102 : Cond.fieldLink RX9 102 "MarginBooksModel" "margins" "I" ∈ GW := GW_of (tb4 (i := 64) rfl) rfl
theorem gY_X9_trace : Cond.lays RX9 "MarginBooksModel" "trace" "J" ∈ GW := GW_of (tb4 (i := 65) rfl) rfl
theorem gY_X9_text : Cond.laysFinal RX9 "MarginBooksModel" "text" "[B" ∈ GW := GW_of (tb4 (i := 67) rfl) rfl
theorem gY_X9_typed : Cond.lays RX9 "MarginBooksModel" "typed" "I" ∈ GW := GW_of (tb4 (i := 69) rfl) rfl
theorem gY_X9_opinions : Cond.laysFinal RX9 "MarginBooksModel" "opinions" "[I" ∈ GW := GW_of (tb4 (i := 71) rfl) rfl
theorem gY_X9_lines : Cond.laysFinal RX9 "MarginBooksModel" "lines" "[I" ∈ GW := GW_of (tb4 (i := 73) rfl) rfl
theorem gY_X9_draftBook : Cond.laysFinal RX9 "MarginBooksModel" "draftBook" "[I" ∈ GW := GW_of (tb4 (i := 75) rfl) rfl
theorem gY_X9_scribes : Cond.laysFinal RX9 "MarginBooksModel" "scribes" "[I" ∈ GW := GW_of (tb4 (i := 77) rfl) rfl
theorem gY_X9_turn : Cond.laysFinal RX9 "MarginBooksModel" "turn" "[I" ∈ GW := GW_of (tb4 (i := 79) rfl) rfl
theorem gY_X9_bent : Cond.laysFinal RX9 "MarginBooksModel" "bent" "[I" ∈ GW := GW_of (tb4 (i := 81) rfl) rfl
theorem gY_X9_need : Cond.laysFinal RX9 "MarginBooksModel" "need" "[I" ∈ GW := GW_of (tb4 (i := 83) rfl) rfl
theorem gY_X9_needTold : Cond.lays RX9 "MarginBooksModel" "needTold" "Z" ∈ GW := GW_of (tb4 (i := 85) rfl) rfl
theorem gY_X9_at : Cond.lays RX9 "MarginBooksModel" "at" "I" ∈ GW := GW_of (tb4 (i := 87) rfl) rfl
theorem gY_X9_start : Cond.lays RX9 "MarginBooksModel" "start" "I" ∈ GW := GW_of (tb4 (i := 89) rfl) rfl
theorem gY_X9_sort : Cond.lays RX9 "MarginBooksModel" "sort" "I" ∈ GW := GW_of (tb4 (i := 91) rfl) rfl
theorem gY_X9_value : Cond.lays RX9 "MarginBooksModel" "value" "I" ∈ GW := GW_of (tb4 (i := 93) rfl) rfl
theorem gY_X9_fault : Cond.lays RX9 "MarginBooksModel" "fault" "I" ∈ GW := GW_of (tb4 (i := 95) rfl) rfl
theorem gY_X9_now : Cond.laysFinal RX9 "MarginBooksModel" "now" "[I" ∈ GW := GW_of (tb4 (i := 97) rfl) rfl
theorem gY_X9_isKept : Cond.laysFinal RX9 "MarginBooksModel" "isKept" "[Z" ∈ GW := GW_of (tb4 (i := 99) rfl) rfl
theorem gY_X9_target : Cond.lays RX9 "MarginBooksModel" "target" "I" ∈ GW := GW_of (tb4 (i := 101) rfl) rfl
theorem gY_X9_went : Cond.lays RX9 "MarginBooksModel" "went" "I" ∈ GW := GW_of (tb4 (i := 103) rfl) rfl
theorem gY_X9_ender : Cond.lays RX9 "MarginBooksModel" "ender" "I" ∈ GW := GW_of (tb4 (i := 105) rfl) rfl
theorem gY_X9_had : Cond.lays RX9 "MarginBooksModel" "had" "I" ∈ GW := GW_of (tb4 (i := 107) rfl) rfl
theorem gY_X9_far : Cond.laysFinal RX9 "MarginBooksModel" "far" "[I" ∈ GW := GW_of (tb4 (i := 109) rfl) rfl
theorem gY_X9_marginOf : Cond.laysFinal RX9 "MarginBooksModel" "marginOf" "[I" ∈ GW := GW_of (tb4 (i := 111) rfl) rfl
theorem gY_X9_marginSays : Cond.laysFinal RX9 "MarginBooksModel" "marginSays" "[I" ∈ GW := GW_of (tb4 (i := 113) rfl) rfl
theorem gY_X9_margins : Cond.lays RX9 "MarginBooksModel" "margins" "I" ∈ GW := GW_of (tb4 (i := 115) rfl) rfl
theorem gA_byte : Cond.arrayClass .byte ∈ GW := GW_of (tb4 (i := 118) rfl) rfl
theorem gA_boolean : Cond.arrayClass .boolean ∈ GW := GW_of (tb4 (i := 119) rfl) rfl
theorem gM_L_17 : Cond.methodLink RL 17 yX9_type ∈ GW := GW_of (tb4 (i := 120) rfl) rfl
theorem gI_X9_type : Cond.instanceMethod yX9_type ∈ GW := GW_of (tb4 (i := 121) rfl) rfl
theorem gE_X9_type : Cond.selects RX9 yX9_type yX9_type ∈ GW := GW_of (tb4 (i := 122) rfl) rfl
theorem gC_X9_type : Cond.code yX9_type cX9_type 2 (Option.some .int) ∈ GW := GW_of (tb4 (i := 123) rfl) rfl
theorem gM_X9_57 : Cond.methodLink RX9 57 yX9_in ∈ GW := GW_of (tb4 (i := 124) rfl) rfl
theorem gS_X9_in : Cond.static yX9_in ∈ GW := GW_of (tb4 (i := 125) rfl) rfl
theorem gC_X9_in : Cond.code yX9_in cX9_in 3 (Option.some .boolean) ∈ GW := GW_of (tb4 (i := 126) rfl) rfl
theorem gM_L_22 : Cond.methodLink RL 22 yX9_clear ∈ GW := GW_of (tb4 (i := 127) rfl) rfl
theorem gI_X9_clear : Cond.instanceMethod yX9_clear ∈ GW := GW_of (tb4 (i := 128) rfl) rfl
theorem gE_X9_clear : Cond.selects RX9 yX9_clear yX9_clear ∈ GW := GW_of (tb4 (i := 129) rfl) rfl
theorem gC_X9_clear : Cond.code yX9_clear cX9_clear 2 (Option.some .int) ∈ GW := GW_of (tb4 (i := 130) rfl) rfl
theorem gM_L_26 : Cond.methodLink RL 26 yX9_house ∈ GW := GW_of (tb4 (i := 131) rfl) rfl
theorem gI_X9_house : Cond.instanceMethod yX9_house ∈ GW := GW_of (tb4 (i := 132) rfl) rfl
theorem gE_X9_house : Cond.selects RX9 yX9_house yX9_house ∈ GW := GW_of (tb4 (i := 133) rfl) rfl
theorem gC_X9_house : Cond.code yX9_house cX9_house 3 (Option.some .int) ∈ GW := GW_of (tb4 (i := 134) rfl) rfl
theorem gM_X9_84 : Cond.methodLink RX9 84 yX9_step ∈ GW := GW_of (tb4 (i := 135) rfl) rfl
theorem gI_X9_step : Cond.instanceMethod yX9_step ∈ GW := GW_of (tb4 (i := 137) rfl) rfl
theorem gC_X9_step : Cond.code yX9_step cX9_step 2 none ∈ GW := GW_of (tb4 (i := 138) rfl) rfl
theorem gM_X9_68 : Cond.methodLink RX9 68 yX9_here ∈ GW := GW_of (tb4 (i := 139) rfl) rfl
theorem gI_X9_here : Cond.instanceMethod yX9_here ∈ GW := GW_of (tb4 (i := 141) rfl) rfl
theorem gC_X9_here : Cond.code yX9_here cX9_here 1 (Option.some .int) ∈ GW := GW_of (tb4 (i := 142) rfl) rfl
theorem gM_X9_105 : Cond.methodLink RX9 105 yX9_mayBe ∈ GW := GW_of (tb4 (i := 143) rfl) rfl
theorem gI_X9_mayBe : Cond.instanceMethod yX9_mayBe ∈ GW := GW_of (tb4 (i := 145) rfl) rfl
theorem gC_X9_mayBe : Cond.code yX9_mayBe cX9_mayBe 3 (Option.some .boolean) ∈ GW := GW_of (tb4 (i := 146) rfl) rfl
theorem gM_X9_87 : Cond.methodLink RX9 87 yX9_due ∈ GW := GW_of (tb4 (i := 147) rfl) rfl
theorem gI_X9_due : Cond.instanceMethod yX9_due ∈ GW := GW_of (tb4 (i := 149) rfl) rfl
theorem gC_X9_due : Cond.code yX9_due cX9_due 3 (Option.some .int) ∈ GW := GW_of (tb4 (i := 150) rfl) rfl
theorem gM_X9_109 : Cond.methodLink RX9 109 yX9_readRow ∈ GW := GW_of (tb4 (i := 151) rfl) rfl
theorem gI_X9_readRow : Cond.instanceMethod yX9_readRow ∈ GW := GW_of (tb4 (i := 153) rfl) rfl
theorem gC_X9_readRow : Cond.code yX9_readRow cX9_readRow 2 none ∈ GW := GW_of (tb4 (i := 154) rfl) rfl
theorem gM_X9_95 : Cond.methodLink RX9 95 yX9_number ∈ GW := GW_of (tb4 (i := 155) rfl) rfl
theorem gI_X9_number : Cond.instanceMethod yX9_number ∈ GW := GW_of (tb4 (i := 157) rfl) rfl
theorem gC_X9_number : Cond.code yX9_number cX9_number 3 (Option.some .int) ∈ GW := GW_of (tb4 (i := 158) rfl) rfl
theorem gM_L_31 : Cond.methodLink RL 31 yX9_line ∈ GW := GW_of (tb4 (i := 159) rfl) rfl
theorem gI_X9_line : Cond.instanceMethod yX9_line ∈ GW := GW_of (tb4 (i := 160) rfl) rfl
theorem gE_X9_line : Cond.selects RX9 yX9_line yX9_line ∈ GW := GW_of (tb4 (i := 161) rfl) rfl
theorem gC_X9_line : Cond.code yX9_line cX9_line 3 (Option.some .int) ∈ GW := GW_of (tb4 (i := 162) rfl) rfl
theorem gM_X9_129 : Cond.methodLink RX9 129 yX9_isLine ∈ GW := GW_of (tb4 (i := 163) rfl) rfl
theorem gI_X9_isLine : Cond.instanceMethod yX9_isLine ∈ GW := GW_of (tb4 (i := 165) rfl) rfl
theorem gC_X9_isLine : Cond.code yX9_isLine cX9_isLine 2 (Option.some .boolean) ∈ GW := GW_of (tb4 (i := 166) rfl) rfl
theorem gM_X9_113 : Cond.methodLink RX9 113 yX9_lineOf ∈ GW := GW_of (tb4 (i := 167) rfl) rfl
theorem gI_X9_lineOf : Cond.instanceMethod yX9_lineOf ∈ GW := GW_of (tb4 (i := 169) rfl) rfl
theorem gC_X9_lineOf : Cond.code yX9_lineOf cX9_lineOf 5 (Option.some .int) ∈ GW := GW_of (tb4 (i := 170) rfl) rfl
theorem gM_L_35 : Cond.methodLink RL 35 yX9_scribe ∈ GW := GW_of (tb4 (i := 171) rfl) rfl
theorem gI_X9_scribe : Cond.instanceMethod yX9_scribe ∈ GW := GW_of (tb4 (i := 172) rfl) rfl
theorem gE_X9_scribe : Cond.selects RX9 yX9_scribe yX9_scribe ∈ GW := GW_of (tb4 (i := 173) rfl) rfl
theorem gC_X9_scribe : Cond.code yX9_scribe cX9_scribe 3 (Option.some .int) ∈ GW := GW_of (tb4 (i := 174) rfl) rfl
theorem gM_X9_133 : Cond.methodLink RX9 133 yX9_isScribe ∈ GW := GW_of (tb4 (i := 175) rfl) rfl
theorem gI_X9_isScribe : Cond.instanceMethod yX9_isScribe ∈ GW := GW_of (tb4 (i := 177) rfl) rfl
theorem gC_X9_isScribe : Cond.code yX9_isScribe cX9_isScribe 2 (Option.some .boolean) ∈ GW := GW_of (tb4 (i := 178) rfl) rfl
theorem gM_X9_119 : Cond.methodLink RX9 119 yX9_disagrees ∈ GW := GW_of (tb4 (i := 179) rfl) rfl
theorem gI_X9_disagrees : Cond.instanceMethod yX9_disagrees ∈ GW := GW_of (tb4 (i := 181) rfl) rfl
theorem gC_X9_disagrees : Cond.code yX9_disagrees cX9_disagrees 5 (Option.some .int) ∈ GW := GW_of (tb4 (i := 182) rfl) rfl
theorem gM_X9_116 : Cond.methodLink RX9 116 yX9_saysOf ∈ GW := GW_of (tb4 (i := 183) rfl) rfl
theorem gI_X9_saysOf : Cond.instanceMethod yX9_saysOf ∈ GW := GW_of (tb4 (i := 185) rfl) rfl
theorem gC_X9_saysOf : Cond.code yX9_saysOf cX9_saysOf 3 (Option.some .int) ∈ GW := GW_of (tb4 (i := 186) rfl) rfl
theorem gM_X9_136 : Cond.methodLink RX9 136 yX9_isConvinced ∈ GW := GW_of (tb4 (i := 187) rfl) rfl
theorem gI_X9_isConvinced : Cond.instanceMethod yX9_isConvinced ∈ GW := GW_of (tb4 (i := 189) rfl) rfl
theorem gC_X9_isConvinced : Cond.code yX9_isConvinced cX9_isConvinced 3 (Option.some .boolean) ∈ GW := GW_of (tb4 (i := 190) rfl) rfl
theorem gM_X9_122 : Cond.methodLink RX9 122 yX9_manyOf ∈ GW := GW_of (tb4 (i := 191) rfl) rfl
theorem gS_X9_manyOf : Cond.static yX9_manyOf ∈ GW := GW_of (tb4 (i := 192) rfl) rfl
theorem gC_X9_manyOf : Cond.code yX9_manyOf cX9_manyOf 3 (Option.some .int) ∈ GW := GW_of (tb4 (i := 193) rfl) rfl
theorem gM_X9_139 : Cond.methodLink RX9 139 yX9_comes ∈ GW := GW_of (tb4 (i := 194) rfl) rfl
theorem gI_X9_comes : Cond.instanceMethod yX9_comes ∈ GW := GW_of (tb4 (i := 196) rfl) rfl
theorem gC_X9_comes : Cond.code yX9_comes cX9_comes 4 (Option.some .int) ∈ GW := GW_of (tb4 (i := 197) rfl) rfl
theorem gM_X9_126 : Cond.methodLink RX9 126 yX9_copyOf ∈ GW := GW_of (tb4 (i := 198) rfl) rfl
theorem gI_X9_copyOf : Cond.instanceMethod yX9_copyOf ∈ GW := GW_of (tb4 (i := 200) rfl) rfl
theorem gC_X9_copyOf : Cond.code yX9_copyOf cX9_copyOf 5 (Option.some .int) ∈ GW := GW_of (tb4 (i := 201) rfl) rfl
theorem gM_L_39 : Cond.methodLink RL 39 yX9_says ∈ GW := GW_of (tb4 (i := 202) rfl) rfl
theorem gI_X9_says : Cond.instanceMethod yX9_says ∈ GW := GW_of (tb4 (i := 203) rfl) rfl
theorem gE_X9_says : Cond.selects RX9 yX9_says yX9_says ∈ GW := GW_of (tb4 (i := 204) rfl) rfl
theorem gC_X9_says : Cond.code yX9_says cX9_says 3 (Option.some .int) ∈ GW := GW_of (tb4 (i := 205) rfl) rfl
theorem gM_X9_142 : Cond.methodLink RX9 142 yX9_isOpinion ∈ GW := GW_of (tb4 (i := 206) rfl) rfl
theorem gI_X9_isOpinion : Cond.instanceMethod yX9_isOpinion ∈ GW := GW_of (tb4 (i := 208) rfl) rfl
theorem gC_X9_isOpinion : Cond.code yX9_isOpinion cX9_isOpinion 2 (Option.some .boolean) ∈ GW := GW_of (tb4 (i := 209) rfl) rfl
theorem gM_L_43 : Cond.methodLink RL 43 yX9_copies ∈ GW := GW_of (tb4 (i := 210) rfl) rfl
theorem gI_X9_copies : Cond.instanceMethod yX9_copies ∈ GW := GW_of (tb4 (i := 211) rfl) rfl
theorem gE_X9_copies : Cond.selects RX9 yX9_copies yX9_copies ∈ GW := GW_of (tb4 (i := 212) rfl) rfl
theorem gC_X9_copies : Cond.code yX9_copies cX9_copies 2 (Option.some .int) ∈ GW := GW_of (tb4 (i := 213) rfl) rfl
theorem gM_X9_145 : Cond.methodLink RX9 145 yX9_know ∈ GW := GW_of (tb4 (i := 214) rfl) rfl
theorem gI_X9_know : Cond.instanceMethod yX9_know ∈ GW := GW_of (tb4 (i := 216) rfl) rfl
theorem gC_X9_know : Cond.code yX9_know cX9_know 2 none ∈ GW := GW_of (tb4 (i := 217) rfl) rfl
theorem gM_L_47 : Cond.methodLink RL 47 yX9_errs ∈ GW := GW_of (tb4 (i := 218) rfl) rfl
theorem gI_X9_errs : Cond.instanceMethod yX9_errs ∈ GW := GW_of (tb4 (i := 219) rfl) rfl
theorem gE_X9_errs : Cond.selects RX9 yX9_errs yX9_errs ∈ GW := GW_of (tb4 (i := 220) rfl) rfl
theorem gC_X9_errs : Cond.code yX9_errs cX9_errs 4 (Option.some .int) ∈ GW := GW_of (tb4 (i := 221) rfl) rfl
theorem gM_X9_148 : Cond.methodLink RX9 148 yX9_put ∈ GW := GW_of (tb4 (i := 222) rfl) rfl
theorem gI_X9_put : Cond.instanceMethod yX9_put ∈ GW := GW_of (tb4 (i := 224) rfl) rfl
theorem gC_X9_put : Cond.code yX9_put cX9_put 6 (Option.some .int) ∈ GW := GW_of (tb4 (i := 225) rfl) rfl
theorem gM_L_51 : Cond.methodLink RL 51 yX9_releases ∈ GW := GW_of (tb4 (i := 226) rfl) rfl
theorem gI_X9_releases : Cond.instanceMethod yX9_releases ∈ GW := GW_of (tb4 (i := 227) rfl) rfl
theorem gE_X9_releases : Cond.selects RX9 yX9_releases yX9_releases ∈ GW := GW_of (tb4 (i := 228) rfl) rfl
theorem gC_X9_releases : Cond.code yX9_releases cX9_releases 3 (Option.some .int) ∈ GW := GW_of (tb4 (i := 229) rfl) rfl
theorem gM_L_55 : Cond.methodLink RL 55 yX9_aims ∈ GW := GW_of (tb4 (i := 230) rfl) rfl
theorem gI_X9_aims : Cond.instanceMethod yX9_aims ∈ GW := GW_of (tb4 (i := 231) rfl) rfl
theorem gE_X9_aims : Cond.selects RX9 yX9_aims yX9_aims ∈ GW := GW_of (tb4 (i := 232) rfl) rfl
theorem gC_X9_aims : Cond.code yX9_aims cX9_aims 4 (Option.some .int) ∈ GW := GW_of (tb4 (i := 233) rfl) rfl
theorem gM_L_59 : Cond.methodLink RL 59 yX9_undo ∈ GW := GW_of (tb4 (i := 234) rfl) rfl
theorem gI_X9_undo : Cond.instanceMethod yX9_undo ∈ GW := GW_of (tb4 (i := 235) rfl) rfl
theorem gE_X9_undo : Cond.selects RX9 yX9_undo yX9_undo ∈ GW := GW_of (tb4 (i := 236) rfl) rfl
theorem gC_X9_undo : Cond.code yX9_undo cX9_undo 2 (Option.some .int) ∈ GW := GW_of (tb4 (i := 237) rfl) rfl
theorem gM_L_63 : Cond.methodLink RL 63 yX9_now ∈ GW := GW_of (tb4 (i := 238) rfl) rfl
theorem gI_X9_now : Cond.instanceMethod yX9_now ∈ GW := GW_of (tb4 (i := 239) rfl) rfl
theorem gE_X9_now : Cond.selects RX9 yX9_now yX9_now ∈ GW := GW_of (tb5 (i := 0) rfl) rfl
theorem gC_X9_now : Cond.code yX9_now cX9_now 4 (Option.some .int) ∈ GW := GW_of (tb5 (i := 1) rfl) rfl
theorem gM_X9_158 : Cond.methodLink RX9 158 yX9_fromOf ∈ GW := GW_of (tb5 (i := 2) rfl) rfl
theorem gI_X9_fromOf : Cond.instanceMethod yX9_fromOf ∈ GW := GW_of (tb5 (i := 4) rfl) rfl
theorem gC_X9_fromOf : Cond.code yX9_fromOf cX9_fromOf 4 (Option.some .int) ∈ GW := GW_of (tb5 (i := 5) rfl) rfl
theorem gM_X9_152 : Cond.methodLink RX9 152 yX9_books ∈ GW := GW_of (tb5 (i := 6) rfl) rfl
theorem gI_X9_books : Cond.instanceMethod yX9_books ∈ GW := GW_of (tb5 (i := 8) rfl) rfl
theorem gC_X9_books : Cond.code yX9_books cX9_books 3 (Option.some .int) ∈ GW := GW_of (tb5 (i := 9) rfl) rfl
theorem gM_X9_155 : Cond.methodLink RX9 155 yX9_mayCome ∈ GW := GW_of (tb5 (i := 10) rfl) rfl
theorem gI_X9_mayCome : Cond.instanceMethod yX9_mayCome ∈ GW := GW_of (tb5 (i := 12) rfl) rfl
theorem gC_X9_mayCome : Cond.code yX9_mayCome cX9_mayCome 3 (Option.some .boolean) ∈ GW := GW_of (tb5 (i := 13) rfl) rfl
theorem gM_X9_161 : Cond.methodLink RX9 161 yX9_same ∈ GW := GW_of (tb5 (i := 14) rfl) rfl
theorem gI_X9_same : Cond.instanceMethod yX9_same ∈ GW := GW_of (tb5 (i := 16) rfl) rfl
theorem gC_X9_same : Cond.code yX9_same cX9_same 6 (Option.some .int) ∈ GW := GW_of (tb5 (i := 17) rfl) rfl
theorem gM_X9_164 : Cond.methodLink RX9 164 yX9_isSo ∈ GW := GW_of (tb5 (i := 18) rfl) rfl
theorem gI_X9_isSo : Cond.instanceMethod yX9_isSo ∈ GW := GW_of (tb5 (i := 20) rfl) rfl
theorem gC_X9_isSo : Cond.code yX9_isSo cX9_isSo 5 (Option.some .boolean) ∈ GW := GW_of (tb5 (i := 21) rfl) rfl
theorem gM_L_67 : Cond.methodLink RL 67 yX9_behind ∈ GW := GW_of (tb5 (i := 22) rfl) rfl
theorem gI_X9_behind : Cond.instanceMethod yX9_behind ∈ GW := GW_of (tb5 (i := 23) rfl) rfl
theorem gE_X9_behind : Cond.selects RX9 yX9_behind yX9_behind ∈ GW := GW_of (tb5 (i := 24) rfl) rfl
theorem gC_X9_behind : Cond.code yX9_behind cX9_behind 3 (Option.some .int) ∈ GW := GW_of (tb5 (i := 25) rfl) rfl
theorem gM_X9_176 : Cond.methodLink RX9 176 yX9_boughtIn ∈ GW := GW_of (tb5 (i := 26) rfl) rfl
theorem gI_X9_boughtIn : Cond.instanceMethod yX9_boughtIn ∈ GW := GW_of (tb5 (i := 28) rfl) rfl
theorem gC_X9_boughtIn : Cond.code yX9_boughtIn cX9_boughtIn 1 (Option.some .int) ∈ GW := GW_of (tb5 (i := 29) rfl) rfl
theorem gM_X9_179 : Cond.methodLink RX9 179 yX9_go ∈ GW := GW_of (tb5 (i := 30) rfl) rfl
theorem gI_X9_go : Cond.instanceMethod yX9_go ∈ GW := GW_of (tb5 (i := 32) rfl) rfl
theorem gC_X9_go : Cond.code yX9_go cX9_go 5 none ∈ GW := GW_of (tb5 (i := 33) rfl) rfl
theorem gM_L_71 : Cond.methodLink RL 71 yX9_ends ∈ GW := GW_of (tb5 (i := 34) rfl) rfl
theorem gI_X9_ends : Cond.instanceMethod yX9_ends ∈ GW := GW_of (tb5 (i := 35) rfl) rfl
theorem gE_X9_ends : Cond.selects RX9 yX9_ends yX9_ends ∈ GW := GW_of (tb5 (i := 36) rfl) rfl
theorem gC_X9_ends : Cond.code yX9_ends cX9_ends 2 (Option.some .int) ∈ GW := GW_of (tb5 (i := 37) rfl) rfl
theorem gM_L_75 : Cond.methodLink RL 75 yX9_lasts ∈ GW := GW_of (tb5 (i := 38) rfl) rfl
theorem gI_X9_lasts : Cond.instanceMethod yX9_lasts ∈ GW := GW_of (tb5 (i := 39) rfl) rfl
theorem gE_X9_lasts : Cond.selects RX9 yX9_lasts yX9_lasts ∈ GW := GW_of (tb5 (i := 40) rfl) rfl
theorem gC_X9_lasts : Cond.code yX9_lasts cX9_lasts 5 (Option.some .int) ∈ GW := GW_of (tb5 (i := 41) rfl) rfl
theorem gM_L_79 : Cond.methodLink RL 79 yX9_buy ∈ GW := GW_of (tb5 (i := 42) rfl) rfl
theorem gI_X9_buy : Cond.instanceMethod yX9_buy ∈ GW := GW_of (tb5 (i := 43) rfl) rfl
theorem gE_X9_buy : Cond.selects RX9 yX9_buy yX9_buy ∈ GW := GW_of (tb5 (i := 44) rfl) rfl
theorem gC_X9_buy : Cond.code yX9_buy cX9_buy 4 (Option.some .int) ∈ GW := GW_of (tb5 (i := 45) rfl) rfl
theorem gM_L_84 : Cond.methodLink RL 84 yX9_odds ∈ GW := GW_of (tb5 (i := 46) rfl) rfl
theorem gI_X9_odds : Cond.instanceMethod yX9_odds ∈ GW := GW_of (tb5 (i := 47) rfl) rfl
theorem gE_X9_odds : Cond.selects RX9 yX9_odds yX9_odds ∈ GW := GW_of (tb5 (i := 48) rfl) rfl
theorem gC_X9_odds : Cond.code yX9_odds cX9_odds 9 (Option.some .int) ∈ GW := GW_of (tb5 (i := 49) rfl) rfl
theorem gM_L_88 : Cond.methodLink RL 88 yX9_way ∈ GW := GW_of (tb5 (i := 50) rfl) rfl
theorem gI_X9_way : Cond.instanceMethod yX9_way ∈ GW := GW_of (tb5 (i := 51) rfl) rfl
theorem gE_X9_way : Cond.selects RX9 yX9_way yX9_way ∈ GW := GW_of (tb5 (i := 52) rfl) rfl
theorem gC_X9_way : Cond.code yX9_way cX9_way 6 (Option.some .int) ∈ GW := GW_of (tb5 (i := 53) rfl) rfl
theorem gM_X9_183 : Cond.methodLink RX9 183 yX9_measure ∈ GW := GW_of (tb5 (i := 54) rfl) rfl
theorem gI_X9_measure : Cond.instanceMethod yX9_measure ∈ GW := GW_of (tb5 (i := 56) rfl) rfl
theorem gC_X9_measure : Cond.code yX9_measure cX9_measure 6 none ∈ GW := GW_of (tb5 (i := 57) rfl) rfl
theorem gM_L_92 : Cond.methodLink RL 92 yX9_from ∈ GW := GW_of (tb5 (i := 58) rfl) rfl
theorem gI_X9_from : Cond.instanceMethod yX9_from ∈ GW := GW_of (tb5 (i := 59) rfl) rfl
theorem gE_X9_from : Cond.selects RX9 yX9_from yX9_from ∈ GW := GW_of (tb5 (i := 60) rfl) rfl
theorem gC_X9_from : Cond.code yX9_from cX9_from 2 (Option.some .int) ∈ GW := GW_of (tb5 (i := 61) rfl) rfl
theorem gM_L_96 : Cond.methodLink RL 96 yX9_saw ∈ GW := GW_of (tb5 (i := 62) rfl) rfl
theorem gI_X9_saw : Cond.instanceMethod yX9_saw ∈ GW := GW_of (tb5 (i := 63) rfl) rfl
theorem gE_X9_saw : Cond.selects RX9 yX9_saw yX9_saw ∈ GW := GW_of (tb5 (i := 64) rfl) rfl
theorem gC_X9_saw : Cond.code yX9_saw cX9_saw 3 (Option.some .int) ∈ GW := GW_of (tb5 (i := 65) rfl) rfl
theorem gM_L_100 : Cond.methodLink RL 100 yX9_forget ∈ GW := GW_of (tb5 (i := 66) rfl) rfl
theorem gI_X9_forget : Cond.instanceMethod yX9_forget ∈ GW := GW_of (tb5 (i := 67) rfl) rfl
theorem gE_X9_forget : Cond.selects RX9 yX9_forget yX9_forget ∈ GW := GW_of (tb5 (i := 68) rfl) rfl
theorem gC_X9_forget : Cond.code yX9_forget cX9_forget 2 (Option.some .int) ∈ GW := GW_of (tb5 (i := 69) rfl) rfl
theorem gM_L_104 : Cond.methodLink RL 104 yX9_fit ∈ GW := GW_of (tb5 (i := 70) rfl) rfl
theorem gI_X9_fit : Cond.instanceMethod yX9_fit ∈ GW := GW_of (tb5 (i := 71) rfl) rfl
theorem gE_X9_fit : Cond.selects RX9 yX9_fit yX9_fit ∈ GW := GW_of (tb5 (i := 72) rfl) rfl
theorem gC_X9_fit : Cond.code yX9_fit cX9_fit 10 (Option.some .int) ∈ GW := GW_of (tb5 (i := 73) rfl) rfl
theorem gM_L_108 : Cond.methodLink RL 108 yX9_mark ∈ GW := GW_of (tb5 (i := 74) rfl) rfl
theorem gI_X9_mark : Cond.instanceMethod yX9_mark ∈ GW := GW_of (tb5 (i := 75) rfl) rfl
theorem gE_X9_mark : Cond.selects RX9 yX9_mark yX9_mark ∈ GW := GW_of (tb5 (i := 76) rfl) rfl
theorem gC_X9_mark : Cond.code yX9_mark cX9_mark 5 (Option.some .int) ∈ GW := GW_of (tb5 (i := 77) rfl) rfl
theorem gK_X9_186 : Cond.constant RX9 186 (-1000000) ∈ GW := GW_of (tb5 (i := 78) rfl) rfl
theorem gQ_X9_191 : Cond.constantLong RX9 191 (11) ∈ GW := GW_of (tb5 (i := 79) rfl) rfl
theorem gQ_X9_193 : Cond.constantLong RX9 193 (101) ∈ GW := GW_of (tb5 (i := 80) rfl) rfl
theorem gQ_X9_195 : Cond.constantLong RX9 195 (1011) ∈ GW := GW_of (tb5 (i := 81) rfl) rfl
theorem gQ_X9_197 : Cond.constantLong RX9 197 (10101) ∈ GW := GW_of (tb5 (i := 82) rfl) rfl
theorem gQ_X9_199 : Cond.constantLong RX9 199 (100001) ∈ GW := GW_of (tb5 (i := 83) rfl) rfl
theorem gM_L_112 : Cond.methodLink RL 112 yX9_keep ∈ GW := GW_of (tb5 (i := 84) rfl) rfl
theorem gI_X9_keep : Cond.instanceMethod yX9_keep ∈ GW := GW_of (tb5 (i := 85) rfl) rfl
theorem gE_X9_keep : Cond.selects RX9 yX9_keep yX9_keep ∈ GW := GW_of (tb5 (i := 86) rfl) rfl
theorem gC_X9_keep : Cond.code yX9_keep cX9_keep 3 (Option.some .int) ∈ GW := GW_of (tb5 (i := 87) rfl) rfl
theorem gM_L_116 : Cond.methodLink RL 116 yX9_back ∈ GW := GW_of (tb5 (i := 88) rfl) rfl
theorem gI_X9_back : Cond.instanceMethod yX9_back ∈ GW := GW_of (tb5 (i := 89) rfl) rfl
theorem gE_X9_back : Cond.selects RX9 yX9_back yX9_back ∈ GW := GW_of (tb5 (i := 90) rfl) rfl
theorem gC_X9_back : Cond.code yX9_back cX9_back 3 (Option.some .int) ∈ GW := GW_of (tb5 (i := 91) rfl) rfl
theorem gM_L_120 : Cond.methodLink RL 120 yX9_count ∈ GW := GW_of (tb5 (i := 92) rfl) rfl
theorem gI_X9_count : Cond.instanceMethod yX9_count ∈ GW := GW_of (tb5 (i := 93) rfl) rfl
theorem gE_X9_count : Cond.selects RX9 yX9_count yX9_count ∈ GW := GW_of (tb5 (i := 94) rfl) rfl
theorem gC_X9_count : Cond.code yX9_count cX9_count 2 (Option.some .int) ∈ GW := GW_of (tb5 (i := 95) rfl) rfl
theorem gM_L_125 : Cond.methodLink RL 125 yX9_trace ∈ GW := GW_of (tb5 (i := 96) rfl) rfl
theorem gI_X9_trace : Cond.instanceMethod yX9_trace ∈ GW := GW_of (tb5 (i := 97) rfl) rfl
theorem gE_X9_trace : Cond.selects RX9 yX9_trace yX9_trace ∈ GW := GW_of (tb5 (i := 98) rfl) rfl
theorem gC_X9_trace : Cond.code yX9_trace cX9_trace 1 (Option.some .long) ∈ GW := GW_of (tb5 (i := 99) rfl) rfl
theorem gE_X4_add : Cond.selects RX4 yX4_add yX4_add ∈ GW := GW_of (tb0 (i := 0) rfl) rfl
theorem gE_X4_empty : Cond.selects RX4 yX4_empty yX4_empty ∈ GW := GW_of (tb0 (i := 1) rfl) rfl
theorem gE_X4_read : Cond.selects RX4 yX4_read yX4_read ∈ GW := GW_of (tb0 (i := 2) rfl) rfl
theorem gE_X0_begin : Cond.selects RX0 yX0_begin yX0_begin ∈ GW := GW_of (tb0 (i := 3) rfl) rfl
theorem gE_X4_readToken : Cond.selects RX4 yX4_readToken yX4_readToken ∈ GW := GW_of (tb0 (i := 4) rfl) rfl
theorem gE_X4_byteAt : Cond.selects RX4 yX4_byteAt yX4_byteAt ∈ GW := GW_of (tb0 (i := 5) rfl) rfl
theorem gE_X4_readLetters : Cond.selects RX4 yX4_readLetters yX4_readLetters ∈ GW := GW_of (tb0 (i := 6) rfl) rfl
theorem gE_X4_readFigures : Cond.selects RX4 yX4_readFigures yX4_readFigures ∈ GW := GW_of (tb0 (i := 7) rfl) rfl
theorem gE_X4_readOpinions : Cond.selects RX4 yX4_readOpinions yX4_readOpinions ∈ GW := GW_of (tb0 (i := 8) rfl) rfl
theorem gE_X4_readNumber : Cond.selects RX4 yX4_readNumber yX4_readNumber ∈ GW := GW_of (tb0 (i := 9) rfl) rfl
theorem gE_X4_readStop : Cond.selects RX4 yX4_readStop yX4_readStop ∈ GW := GW_of (tb0 (i := 10) rfl) rfl
theorem gE_X4_readBook : Cond.selects RX4 yX4_readBook yX4_readBook ∈ GW := GW_of (tb0 (i := 11) rfl) rfl
theorem gE_X0_hasOpinion : Cond.selects RX0 yX0_hasOpinion yX0_hasOpinion ∈ GW := GW_of (tb0 (i := 12) rfl) rfl
theorem gE_X0_addLine : Cond.selects RX0 yX0_addLine yX0_addLine ∈ GW := GW_of (tb0 (i := 13) rfl) rfl
theorem gE_X4_readScribe : Cond.selects RX4 yX4_readScribe yX4_readScribe ∈ GW := GW_of (tb0 (i := 14) rfl) rfl
theorem gE_X0_addScribe : Cond.selects RX0 yX0_addScribe yX0_addScribe ∈ GW := GW_of (tb0 (i := 15) rfl) rfl
theorem gE_X4_readNeed : Cond.selects RX4 yX4_readNeed yX4_readNeed ∈ GW := GW_of (tb0 (i := 16) rfl) rfl
theorem gE_X1_learn : Cond.selects RX1 yX1_learn yX1_learn ∈ GW := GW_of (tb0 (i := 17) rfl) rfl
theorem gE_X0_isConvinced : Cond.selects RX0 yX0_isConvinced yX0_isConvinced ∈ GW := GW_of (tb0 (i := 18) rfl) rfl
theorem gE_X0_unlikeLines : Cond.selects RX0 yX0_unlikeLines yX0_unlikeLines ∈ GW := GW_of (tb0 (i := 19) rfl) rfl
theorem gE_X0_saidBy : Cond.selects RX0 yX0_saidBy yX0_saidBy ∈ GW := GW_of (tb0 (i := 20) rfl) rfl
theorem gE_X0_turnOf : Cond.selects RX0 yX0_turnOf yX0_turnOf ∈ GW := GW_of (tb0 (i := 21) rfl) rfl
theorem gE_X0_hasScribe : Cond.selects RX0 yX0_hasScribe yX0_hasScribe ∈ GW := GW_of (tb0 (i := 22) rfl) rfl
theorem gE_X0_bentOf : Cond.selects RX0 yX0_bentOf yX0_bentOf ∈ GW := GW_of (tb0 (i := 23) rfl) rfl
theorem gE_X0_becomes : Cond.selects RX0 yX0_becomes yX0_becomes ∈ GW := GW_of (tb0 (i := 24) rfl) rfl
theorem gE_X6_begin : Cond.selects RX6 yX6_begin yX6_begin ∈ GW := GW_of (tb0 (i := 25) rfl) rfl
theorem gE_X6_put : Cond.selects RX6 yX6_put yX6_put ∈ GW := GW_of (tb0 (i := 26) rfl) rfl
theorem gE_X2_empty : Cond.selects RX2 yX2_empty yX2_empty ∈ GW := GW_of (tb0 (i := 27) rfl) rfl
theorem gE_X0_hasLine : Cond.selects RX0 yX0_hasLine yX0_hasLine ∈ GW := GW_of (tb0 (i := 28) rfl) rfl
theorem gE_X6_book : Cond.selects RX6 yX6_book yX6_book ∈ GW := GW_of (tb0 (i := 29) rfl) rfl
theorem gE_X6_at : Cond.selects RX6 yX6_at yX6_at ∈ GW := GW_of (tb0 (i := 30) rfl) rfl
theorem gE_X0_lineOf : Cond.selects RX0 yX0_lineOf yX0_lineOf ∈ GW := GW_of (tb0 (i := 31) rfl) rfl
theorem gE_X0_weightOf : Cond.selects RX0 yX0_weightOf yX0_weightOf ∈ GW := GW_of (tb0 (i := 32) rfl) rfl
theorem gE_X6_isReleased : Cond.selects RX6 yX6_isReleased yX6_isReleased ∈ GW := GW_of (tb0 (i := 33) rfl) rfl
theorem gE_X6_released : Cond.selects RX6 yX6_released yX6_released ∈ GW := GW_of (tb0 (i := 34) rfl) rfl
theorem gE_X6_timesOf : Cond.selects RX6 yX6_timesOf yX6_timesOf ∈ GW := GW_of (tb0 (i := 35) rfl) rfl
theorem gE_X0_comesRound : Cond.selects RX0 yX0_comesRound yX0_comesRound ∈ GW := GW_of (tb0 (i := 36) rfl) rfl
theorem gE_X6_copiesNow : Cond.selects RX6 yX6_copiesNow yX6_copiesNow ∈ GW := GW_of (tb0 (i := 37) rfl) rfl
theorem gE_X6_remember : Cond.selects RX6 yX6_remember yX6_remember ∈ GW := GW_of (tb0 (i := 38) rfl) rfl
theorem gE_X6_copyRow : Cond.selects RX6 yX6_copyRow yX6_copyRow ∈ GW := GW_of (tb0 (i := 39) rfl) rfl
theorem gE_X6_copied : Cond.selects RX6 yX6_copied yX6_copied ∈ GW := GW_of (tb0 (i := 40) rfl) rfl
theorem gE_X0_withLine : Cond.selects RX0 yX0_withLine yX0_withLine ∈ GW := GW_of (tb0 (i := 41) rfl) rfl
theorem gE_X6_setBook : Cond.selects RX6 yX6_setBook yX6_setBook ∈ GW := GW_of (tb0 (i := 42) rfl) rfl
theorem gE_X6_turnReleased : Cond.selects RX6 yX6_turnReleased yX6_turnReleased ∈ GW := GW_of (tb0 (i := 43) rfl) rfl
theorem gE_X6_takeBack : Cond.selects RX6 yX6_takeBack yX6_takeBack ∈ GW := GW_of (tb0 (i := 44) rfl) rfl
theorem gE_X8_convinced : Cond.selects RX8 yX8_convinced yX8_convinced ∈ GW := GW_of (tb0 (i := 45) rfl) rfl
theorem gE_X7_lastCopiers : Cond.selects RX7 yX7_lastCopiers yX7_lastCopiers ∈ GW := GW_of (tb0 (i := 46) rfl) rfl
theorem gE_X7_countBefore : Cond.selects RX7 yX7_countBefore yX7_countBefore ∈ GW := GW_of (tb0 (i := 47) rfl) rfl
theorem gE_X1_copyBy : Cond.selects RX1 yX1_copyBy yX1_copyBy ∈ GW := GW_of (tb0 (i := 48) rfl) rfl
theorem gE_X7_sameLines : Cond.selects RX7 yX7_sameLines yX7_sameLines ∈ GW := GW_of (tb0 (i := 49) rfl) rfl
theorem gE_X2_fittingScribes : Cond.selects RX2 yX2_fittingScribes yX2_fittingScribes ∈ GW := GW_of (tb0 (i := 50) rfl) rfl
theorem gE_X2_fits : Cond.selects RX2 yX2_fits yX2_fits ∈ GW := GW_of (tb0 (i := 51) rfl) rfl
theorem gE_X8_bought : Cond.selects RX8 yX8_bought yX8_bought ∈ GW := GW_of (tb0 (i := 52) rfl) rfl
theorem gE_X0_allScribes : Cond.selects RX0 yX0_allScribes yX0_allScribes ∈ GW := GW_of (tb0 (i := 53) rfl) rfl
theorem gE_X5_run : Cond.selects RX5 yX5_run yX5_run ∈ GW := GW_of (tb0 (i := 54) rfl) rfl
theorem gE_X5_runToEnd : Cond.selects RX5 yX5_runToEnd yX5_runToEnd ∈ GW := GW_of (tb0 (i := 55) rfl) rfl
theorem gE_X5_longestBook : Cond.selects RX5 yX5_longestBook yX5_longestBook ∈ GW := GW_of (tb0 (i := 56) rfl) rfl
theorem gE_X5_fewestToBuy : Cond.selects RX5 yX5_fewestToBuy yX5_fewestToBuy ∈ GW := GW_of (tb0 (i := 57) rfl) rfl
theorem gE_X5_reaches : Cond.selects RX5 yX5_reaches yX5_reaches ∈ GW := GW_of (tb0 (i := 58) rfl) rfl
theorem gE_X7_search : Cond.selects RX7 yX7_search yX7_search ∈ GW := GW_of (tb0 (i := 59) rfl) rfl
theorem gE_X7_find : Cond.selects RX7 yX7_find yX7_find ∈ GW := GW_of (tb0 (i := 60) rfl) rfl
theorem gE_X7_isFound : Cond.selects RX7 yX7_isFound yX7_isFound ∈ GW := GW_of (tb0 (i := 61) rfl) rfl
theorem gE_X7_distanceOf : Cond.selects RX7 yX7_distanceOf yX7_distanceOf ∈ GW := GW_of (tb0 (i := 62) rfl) rfl
theorem gE_X7_fewestCopies : Cond.selects RX7 yX7_fewestCopies yX7_fewestCopies ∈ GW := GW_of (tb0 (i := 63) rfl) rfl
theorem gE_X7_scribeOfCopy : Cond.selects RX7 yX7_scribeOfCopy yX7_scribeOfCopy ∈ GW := GW_of (tb0 (i := 64) rfl) rfl
theorem gE_X2_add : Cond.selects RX2 yX2_add yX2_add ∈ GW := GW_of (tb0 (i := 65) rfl) rfl
theorem gE_X2_countFits : Cond.selects RX2 yX2_countFits yX2_countFits ∈ GW := GW_of (tb0 (i := 66) rfl) rfl
theorem gE_X2_firstFit : Cond.selects RX2 yX2_firstFit yX2_firstFit ∈ GW := GW_of (tb0 (i := 67) rfl) rfl
theorem gE_X2_mostTelling : Cond.selects RX2 yX2_mostTelling yX2_mostTelling ∈ GW := GW_of (tb0 (i := 68) rfl) rfl
theorem gE_X2_answersTo : Cond.selects RX2 yX2_answersTo yX2_answersTo ∈ GW := GW_of (tb0 (i := 69) rfl) rfl
theorem gE_X3_ask : Cond.selects RX3 yX3_ask yX3_ask ∈ GW := GW_of (tb0 (i := 70) rfl) rfl
theorem gE_X6_become : Cond.selects RX6 yX6_become yX6_become ∈ GW := GW_of (tb0 (i := 71) rfl) rfl
theorem gE_X9_plain : Cond.selects RX9 yX9_plain yX9_plain ∈ GW := GW_of (tb0 (i := 72) rfl) rfl
theorem gE_X9_takeDraft : Cond.selects RX9 yX9_takeDraft yX9_takeDraft ∈ GW := GW_of (tb0 (i := 73) rfl) rfl
theorem gE_X9_step : Cond.selects RX9 yX9_step yX9_step ∈ GW := GW_of (tb0 (i := 74) rfl) rfl
theorem gE_X9_here : Cond.selects RX9 yX9_here yX9_here ∈ GW := GW_of (tb0 (i := 75) rfl) rfl
theorem gE_X9_mayBe : Cond.selects RX9 yX9_mayBe yX9_mayBe ∈ GW := GW_of (tb0 (i := 76) rfl) rfl
theorem gE_X9_due : Cond.selects RX9 yX9_due yX9_due ∈ GW := GW_of (tb0 (i := 77) rfl) rfl
theorem gE_X9_readRow : Cond.selects RX9 yX9_readRow yX9_readRow ∈ GW := GW_of (tb0 (i := 78) rfl) rfl
theorem gE_X9_number : Cond.selects RX9 yX9_number yX9_number ∈ GW := GW_of (tb0 (i := 79) rfl) rfl
theorem gE_X9_isLine : Cond.selects RX9 yX9_isLine yX9_isLine ∈ GW := GW_of (tb0 (i := 80) rfl) rfl
theorem gE_X9_lineOf : Cond.selects RX9 yX9_lineOf yX9_lineOf ∈ GW := GW_of (tb0 (i := 81) rfl) rfl
theorem gE_X9_isScribe : Cond.selects RX9 yX9_isScribe yX9_isScribe ∈ GW := GW_of (tb0 (i := 82) rfl) rfl
theorem gE_X9_disagrees : Cond.selects RX9 yX9_disagrees yX9_disagrees ∈ GW := GW_of (tb0 (i := 83) rfl) rfl
theorem gE_X9_saysOf : Cond.selects RX9 yX9_saysOf yX9_saysOf ∈ GW := GW_of (tb0 (i := 84) rfl) rfl
theorem gE_X9_isConvinced : Cond.selects RX9 yX9_isConvinced yX9_isConvinced ∈ GW := GW_of (tb0 (i := 85) rfl) rfl
theorem gE_X9_comes : Cond.selects RX9 yX9_comes yX9_comes ∈ GW := GW_of (tb0 (i := 86) rfl) rfl
theorem gE_X9_copyOf : Cond.selects RX9 yX9_copyOf yX9_copyOf ∈ GW := GW_of (tb0 (i := 87) rfl) rfl
theorem gE_X9_isOpinion : Cond.selects RX9 yX9_isOpinion yX9_isOpinion ∈ GW := GW_of (tb0 (i := 88) rfl) rfl
theorem gE_X9_know : Cond.selects RX9 yX9_know yX9_know ∈ GW := GW_of (tb0 (i := 89) rfl) rfl
theorem gE_X9_put : Cond.selects RX9 yX9_put yX9_put ∈ GW := GW_of (tb0 (i := 90) rfl) rfl
theorem gE_X9_fromOf : Cond.selects RX9 yX9_fromOf yX9_fromOf ∈ GW := GW_of (tb0 (i := 91) rfl) rfl
theorem gE_X9_books : Cond.selects RX9 yX9_books yX9_books ∈ GW := GW_of (tb0 (i := 92) rfl) rfl
theorem gE_X9_mayCome : Cond.selects RX9 yX9_mayCome yX9_mayCome ∈ GW := GW_of (tb0 (i := 93) rfl) rfl
theorem gE_X9_same : Cond.selects RX9 yX9_same yX9_same ∈ GW := GW_of (tb0 (i := 94) rfl) rfl
theorem gE_X9_isSo : Cond.selects RX9 yX9_isSo yX9_isSo ∈ GW := GW_of (tb0 (i := 95) rfl) rfl
theorem gE_X9_boughtIn : Cond.selects RX9 yX9_boughtIn yX9_boughtIn ∈ GW := GW_of (tb0 (i := 96) rfl) rfl
theorem gE_X9_go : Cond.selects RX9 yX9_go yX9_go ∈ GW := GW_of (tb0 (i := 97) rfl) rfl
theorem gE_X9_measure : Cond.selects RX9 yX9_measure yX9_measure ∈ GW := GW_of (tb0 (i := 98) rfl) rfl
