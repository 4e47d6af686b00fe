theorem tb_1 {w : Cond} (h : w ∈ tables_1_1) : w ∈ tables_1 := List.mem_append_left _ h
theorem tg_1 {w : Cond} (h : w ∈ tables_1_1) (hg : goodWord w = true) : w ∈ gw := List.mem_filter.mpr ⟨List.mem_append_right _ (tb_1 h), hg⟩
theorem tn_1 {w : Cond} (h : w ∈ tables_1_1) (hg : isNest w = true) : w ∈ nestW := List.mem_filter.mpr ⟨tb_1 h, hg⟩
theorem tb_2 {w : Cond} (h : w ∈ tables_1_2) : w ∈ tables_1 := List.mem_append_right _ (List.mem_append_left _ h)
theorem tg_2 {w : Cond} (h : w ∈ tables_1_2) (hg : goodWord w = true) : w ∈ gw := List.mem_filter.mpr ⟨List.mem_append_right _ (tb_2 h), hg⟩
theorem tn_2 {w : Cond} (h : w ∈ tables_1_2) (hg : isNest w = true) : w ∈ nestW := List.mem_filter.mpr ⟨tb_2 h, hg⟩
theorem tb_3 {w : Cond} (h : w ∈ tables_1_3) : w ∈ tables_1 := List.mem_append_right _ (List.mem_append_right _ (List.mem_append_left _ h))
theorem tg_3 {w : Cond} (h : w ∈ tables_1_3) (hg : goodWord w = true) : w ∈ gw := List.mem_filter.mpr ⟨List.mem_append_right _ (tb_3 h), hg⟩
theorem tn_3 {w : Cond} (h : w ∈ tables_1_3) (hg : isNest w = true) : w ∈ nestW := List.mem_filter.mpr ⟨tb_3 h, hg⟩
theorem tb_4 {w : Cond} (h : w ∈ tables_1_4) : w ∈ tables_1 := List.mem_append_right _ (List.mem_append_right _ (List.mem_append_right _ (List.mem_append_left _ h)))
theorem tg_4 {w : Cond} (h : w ∈ tables_1_4) (hg : goodWord w = true) : w ∈ gw := List.mem_filter.mpr ⟨List.mem_append_right _ (tb_4 h), hg⟩
theorem tn_4 {w : Cond} (h : w ∈ tables_1_4) (hg : isNest w = true) : w ∈ nestW := List.mem_filter.mpr ⟨tb_4 h, hg⟩
theorem tb_5 {w : Cond} (h : w ∈ tables_1_5) : w ∈ tables_1 := List.mem_append_right _ (List.mem_append_right _ (List.mem_append_right _ (List.mem_append_right _ (List.mem_append_left _ h))))
theorem tg_5 {w : Cond} (h : w ∈ tables_1_5) (hg : goodWord w = true) : w ∈ gw := List.mem_filter.mpr ⟨List.mem_append_right _ (tb_5 h), hg⟩
theorem tn_5 {w : Cond} (h : w ∈ tables_1_5) (hg : isNest w = true) : w ∈ nestW := List.mem_filter.mpr ⟨tb_5 h, hg⟩
theorem tb_6 {w : Cond} (h : w ∈ tables_1_6) : w ∈ tables_1 := List.mem_append_right _ (List.mem_append_right _ (List.mem_append_right _ (List.mem_append_right _ (List.mem_append_right _ (List.mem_append_left _ h)))))
theorem tg_6 {w : Cond} (h : w ∈ tables_1_6) (hg : goodWord w = true) : w ∈ gw := List.mem_filter.mpr ⟨List.mem_append_right _ (tb_6 h), hg⟩
theorem tn_6 {w : Cond} (h : w ∈ tables_1_6) (hg : isNest w = true) : w ∈ nestW := List.mem_filter.mpr ⟨tb_6 h, hg⟩
theorem tb_7 {w : Cond} (h : w ∈ tables_1_7) : w ∈ tables_1 := List.mem_append_right _ (List.mem_append_right _ (List.mem_append_right _ (List.mem_append_right _ (List.mem_append_right _ (List.mem_append_right _ (List.mem_append_left _ h))))))
theorem tg_7 {w : Cond} (h : w ∈ tables_1_7) (hg : goodWord w = true) : w ∈ gw := List.mem_filter.mpr ⟨List.mem_append_right _ (tb_7 h), hg⟩
theorem tn_7 {w : Cond} (h : w ∈ tables_1_7) (hg : isNest w = true) : w ∈ nestW := List.mem_filter.mpr ⟨tb_7 h, hg⟩
theorem tb_8 {w : Cond} (h : w ∈ tables_1_8) : w ∈ tables_1 := List.mem_append_right _ (List.mem_append_right _ (List.mem_append_right _ (List.mem_append_right _ (List.mem_append_right _ (List.mem_append_right _ (List.mem_append_right _ (h)))))))
theorem tg_8 {w : Cond} (h : w ∈ tables_1_8) (hg : goodWord w = true) : w ∈ gw := List.mem_filter.mpr ⟨List.mem_append_right _ (tb_8 h), hg⟩
theorem tn_8 {w : Cond} (h : w ∈ tables_1_8) (hg : isNest w = true) : w ∈ nestW := List.mem_filter.mpr ⟨tb_8 h, hg⟩
theorem wd_1_0 : Cond.initialized RL ∈ gw := tg_1 (List.mem_of_getElem? (i := 0) rfl) rfl
theorem wd_1_1 : Cond.initialized RX10 ∈ gw := tg_1 (List.mem_of_getElem? (i := 1) rfl) rfl
theorem wd_1_2 : Cond.initialized RX6 ∈ gw := tg_1 (List.mem_of_getElem? (i := 2) rfl) rfl
theorem wd_1_3 : Cond.initialized RX9 ∈ gw := tg_1 (List.mem_of_getElem? (i := 3) rfl) rfl
theorem wd_1_4 : Cond.initialized RX5 ∈ gw := tg_1 (List.mem_of_getElem? (i := 4) rfl) rfl
theorem wd_1_5 : Cond.initialized RX3 ∈ gw := tg_1 (List.mem_of_getElem? (i := 5) rfl) rfl
theorem wd_1_6 : Cond.initialized RX8 ∈ gw := tg_1 (List.mem_of_getElem? (i := 6) rfl) rfl
theorem wd_1_7 : Cond.initialized RX7 ∈ gw := tg_1 (List.mem_of_getElem? (i := 7) rfl) rfl
theorem wd_1_8 : Cond.initialized RX1 ∈ gw := tg_1 (List.mem_of_getElem? (i := 8) rfl) rfl
theorem wd_1_9 : Cond.initialized RX11 ∈ gw := tg_1 (List.mem_of_getElem? (i := 9) rfl) rfl
theorem wd_1_10 : Cond.initialized RJ0 ∈ gw := tg_1 (List.mem_of_getElem? (i := 10) rfl) rfl
theorem wd_1_11 : Cond.initialized RJ1 ∈ gw := tg_1 (List.mem_of_getElem? (i := 11) rfl) rfl
theorem wd_1_12 : Cond.initialized RJ3 ∈ gw := tg_1 (List.mem_of_getElem? (i := 12) rfl) rfl
theorem wd_1_13 : Cond.initialized RJ2 ∈ gw := tg_1 (List.mem_of_getElem? (i := 13) rfl) rfl
theorem wd_1_14 : Cond.initialized RX0 ∈ gw := tg_1 (List.mem_of_getElem? (i := 14) rfl) rfl
theorem wd_1_15 : Cond.initialized RJ9 ∈ gw := tg_1 (List.mem_of_getElem? (i := 15) rfl) rfl
theorem wd_1_16 : Cond.initialized RJxd2413 ∈ gw := tg_1 (List.mem_of_getElem? (i := 16) rfl) rfl
theorem wd_1_17 : Cond.initialized RJ13 ∈ gw := tg_1 (List.mem_of_getElem? (i := 17) rfl) rfl
theorem wd_1_18 : Cond.initialized RJ6 ∈ gw := tg_1 (List.mem_of_getElem? (i := 18) rfl) rfl
theorem wd_1_19 : Cond.initialized "java/lang/Throwable" ∈ gw := tg_1 (List.mem_of_getElem? (i := 19) rfl) rfl
theorem wd_1_20 : Cond.initialized "java/lang/Exception" ∈ gw := tg_1 (List.mem_of_getElem? (i := 20) rfl) rfl
theorem wd_1_21 : Cond.initialized "java/lang/RuntimeException" ∈ gw := tg_1 (List.mem_of_getElem? (i := 21) rfl) rfl
theorem wd_1_22 : Cond.initialized "java/util/NoSuchElementException" ∈ gw := tg_1 (List.mem_of_getElem? (i := 22) rfl) rfl
theorem wd_1_23 : Cond.initialized RJ10 ∈ gw := tg_1 (List.mem_of_getElem? (i := 23) rfl) rfl
theorem wd_1_26 : Cond.methodLink RL 15 yX10_init ∈ gw := tg_1 (List.mem_of_getElem? (i := 26) rfl) rfl
theorem wd_1_27 : Cond.instanceMethod yX10_init ∈ gw := tg_1 (List.mem_of_getElem? (i := 27) rfl) rfl
theorem wd_1_28 : Cond.code yX10_init cX10_init 2 none ∈ gw := tg_1 (List.mem_of_getElem? (i := 28) rfl) rfl
theorem wd_1_29 : Cond.methodLink RX10 3 objectInit ∈ gw := tg_1 (List.mem_of_getElem? (i := 29) rfl) rfl
theorem wd_1_30 : Cond.instanceMethod objectInit ∈ gw := tg_1 (List.mem_of_getElem? (i := 30) rfl) rfl
theorem wd_1_34 : Cond.methodLinkNest RX10 11 yX6_init "TurnShifts" ∈ nestW := tn_1 (List.mem_of_getElem? (i := 34) rfl) rfl
theorem wd_1_35 : Cond.instanceMethod yX6_init ∈ gw := tg_1 (List.mem_of_getElem? (i := 35) rfl) rfl
theorem wd_1_36 : Cond.code yX6_init cX6_init 1 none ∈ gw := tg_1 (List.mem_of_getElem? (i := 36) rfl) rfl
theorem wd_1_37 : Cond.methodLink RX6 3 objectInit ∈ gw := tg_1 (List.mem_of_getElem? (i := 37) rfl) rfl
theorem wd_1_38 : Cond.fieldLink RX6 9 "TurnShifts$Tape" "bytes" "[I" ∈ gw := tg_1 (List.mem_of_getElem? (i := 38) rfl) rfl
theorem wd_1_39 : Cond.fieldLinkNest RX5 22 "TurnShifts$Tape" "bytes" "[I" "TurnShifts" ∈ nestW := tn_1 (List.mem_of_getElem? (i := 39) rfl) rfl
theorem wd_1_40 : Cond.fieldLinkNest RX5 17 "TurnShifts$Tape" "length" "I" "TurnShifts" ∈ nestW := tn_1 (List.mem_of_getElem? (i := 40) rfl) rfl
theorem wd_1_41 : Cond.fieldLinkNest RX10 78 "TurnShifts$Tape" "length" "I" "TurnShifts" ∈ nestW := tn_1 (List.mem_of_getElem? (i := 41) rfl) rfl
theorem wd_1_42 : Cond.fieldLink RX6 15 "TurnShifts$Tape" "length" "I" ∈ gw := tg_1 (List.mem_of_getElem? (i := 42) rfl) rfl
theorem wd_1_43 : Cond.laysFinal RX6 "TurnShifts$Tape" "bytes" "[I" ∈ gw := tg_1 (List.mem_of_getElem? (i := 43) rfl) rfl
theorem wd_1_45 : Cond.lays RX6 "TurnShifts$Tape" "length" "I" ∈ gw := tg_1 (List.mem_of_getElem? (i := 45) rfl) rfl
theorem wd_1_51 : Cond.methodLinkNest RX10 20 yX9_init "TurnShifts" ∈ nestW := tn_1 (List.mem_of_getElem? (i := 51) rfl) rfl
theorem wd_1_52 : Cond.instanceMethod yX9_init ∈ gw := tg_1 (List.mem_of_getElem? (i := 52) rfl) rfl
theorem wd_1_53 : Cond.code yX9_init cX9_init 2 none ∈ gw := tg_1 (List.mem_of_getElem? (i := 53) rfl) rfl
theorem wd_1_54 : Cond.methodLink RX9 3 objectInit ∈ gw := tg_1 (List.mem_of_getElem? (i := 54) rfl) rfl
theorem wd_1_57 : Cond.methodLinkNest RX9 11 yX5_init "TurnShifts" ∈ nestW := tn_1 (List.mem_of_getElem? (i := 57) rfl) rfl
theorem wd_1_58 : Cond.instanceMethod yX5_init ∈ gw := tg_1 (List.mem_of_getElem? (i := 58) rfl) rfl
theorem wd_1_59 : Cond.code yX5_init cX5_init 2 none ∈ gw := tg_1 (List.mem_of_getElem? (i := 59) rfl) rfl
theorem wd_1_60 : Cond.methodLink RX5 1 objectInit ∈ gw := tg_1 (List.mem_of_getElem? (i := 60) rfl) rfl
theorem wd_1_61 : Cond.fieldLink RX5 7 "TurnShifts$Scan" "tape" "LTurnShifts$Tape;" ∈ gw := tg_1 (List.mem_of_getElem? (i := 61) rfl) rfl
theorem wd_1_62 : Cond.fieldLink RX5 13 "TurnShifts$Scan" "at" "I" ∈ gw := tg_1 (List.mem_of_getElem? (i := 62) rfl) rfl
theorem wd_1_63 : Cond.fieldLinkNest RX3 30 "TurnShifts$Scan" "at" "I" "TurnShifts" ∈ nestW := tn_1 (List.mem_of_getElem? (i := 63) rfl) rfl
theorem wd_1_64 : Cond.fieldLinkNest RX9 44 "TurnShifts$Scan" "at" "I" "TurnShifts" ∈ nestW := tn_1 (List.mem_of_getElem? (i := 64) rfl) rfl
theorem wd_1_65 : Cond.laysFinal RX5 "TurnShifts$Scan" "tape" "LTurnShifts$Tape;" ∈ gw := tg_1 (List.mem_of_getElem? (i := 65) rfl) rfl
theorem wd_1_67 : Cond.lays RX5 "TurnShifts$Scan" "at" "I" ∈ gw := tg_1 (List.mem_of_getElem? (i := 67) rfl) rfl
theorem wd_1_70 : Cond.fieldLink RX9 14 "TurnShifts$UnitText" "scan" "LTurnShifts$Scan;" ∈ gw := tg_1 (List.mem_of_getElem? (i := 70) rfl) rfl
theorem wd_1_71 : Cond.fieldLink RX9 34 "TurnShifts$UnitText" "width" "I" ∈ gw := tg_1 (List.mem_of_getElem? (i := 71) rfl) rfl
theorem wd_1_72 : Cond.fieldLinkNest RX10 91 "TurnShifts$UnitText" "width" "I" "TurnShifts" ∈ nestW := tn_1 (List.mem_of_getElem? (i := 72) rfl) rfl
theorem wd_1_73 : Cond.fieldLink RX9 47 "TurnShifts$UnitText" "guard" "I" ∈ gw := tg_1 (List.mem_of_getElem? (i := 73) rfl) rfl
theorem wd_1_74 : Cond.fieldLink RX9 38 "TurnShifts$UnitText" "stages" "I" ∈ gw := tg_1 (List.mem_of_getElem? (i := 74) rfl) rfl
theorem wd_1_75 : Cond.fieldLinkNest RX10 97 "TurnShifts$UnitText" "stages" "I" "TurnShifts" ∈ nestW := tn_1 (List.mem_of_getElem? (i := 75) rfl) rfl
theorem wd_1_76 : Cond.fieldLink RX9 50 "TurnShifts$UnitText" "fold" "I" ∈ gw := tg_1 (List.mem_of_getElem? (i := 76) rfl) rfl
theorem wd_1_77 : Cond.fieldLink RX9 53 "TurnShifts$UnitText" "pipe" "Z" ∈ gw := tg_1 (List.mem_of_getElem? (i := 77) rfl) rfl
theorem wd_1_78 : Cond.fieldLink RX9 57 "TurnShifts$UnitText" "near" "Z" ∈ gw := tg_1 (List.mem_of_getElem? (i := 78) rfl) rfl
theorem wd_1_79 : Cond.fieldLinkNest RX10 103 "TurnShifts$UnitText" "near" "Z" "TurnShifts" ∈ nestW := tn_1 (List.mem_of_getElem? (i := 79) rfl) rfl
theorem wd_1_80 : Cond.laysFinal RX9 "TurnShifts$UnitText" "scan" "LTurnShifts$Scan;" ∈ gw := tg_1 (List.mem_of_getElem? (i := 80) rfl) rfl
theorem wd_1_82 : Cond.lays RX9 "TurnShifts$UnitText" "width" "I" ∈ gw := tg_1 (List.mem_of_getElem? (i := 82) rfl) rfl
theorem wd_1_84 : Cond.lays RX9 "TurnShifts$UnitText" "guard" "I" ∈ gw := tg_1 (List.mem_of_getElem? (i := 84) rfl) rfl
theorem wd_1_86 : Cond.lays RX9 "TurnShifts$UnitText" "stages" "I" ∈ gw := tg_1 (List.mem_of_getElem? (i := 86) rfl) rfl
theorem wd_1_88 : Cond.lays RX9 "TurnShifts$UnitText" "fold" "I" ∈ gw := tg_1 (List.mem_of_getElem? (i := 88) rfl) rfl
theorem wd_1_90 : Cond.lays RX9 "TurnShifts$UnitText" "pipe" "Z" ∈ gw := tg_1 (List.mem_of_getElem? (i := 90) rfl) rfl
theorem wd_1_92 : Cond.lays RX9 "TurnShifts$UnitText" "near" "Z" ∈ gw := tg_1 (List.mem_of_getElem? (i := 92) rfl) rfl
theorem wd_1_97 : Cond.methodLinkNest RX10 29 yX3_init "TurnShifts" ∈ nestW := tn_1 (List.mem_of_getElem? (i := 97) rfl) rfl
theorem wd_1_98 : Cond.instanceMethod yX3_init ∈ gw := tg_1 (List.mem_of_getElem? (i := 98) rfl) rfl
theorem wd_1_99 : Cond.code yX3_init cX3_init 2 none ∈ gw := tg_1 (List.mem_of_getElem? (i := 99) rfl) rfl
theorem wd_1_100 : Cond.methodLink RX3 3 objectInit ∈ gw := tg_1 (List.mem_of_getElem? (i := 100) rfl) rfl
theorem wd_1_102 : Cond.methodLinkNest RX3 23 yX5_init "TurnShifts" ∈ nestW := tn_1 (List.mem_of_getElem? (i := 102) rfl) rfl
theorem wd_1_103 : Cond.fieldLink RX3 26 "TurnShifts$OrdersText" "scan" "LTurnShifts$Scan;" ∈ gw := tg_1 (List.mem_of_getElem? (i := 103) rfl) rfl
theorem wd_1_104 : Cond.fieldLink RX3 9 "TurnShifts$OrdersText" "kinds" "[I" ∈ gw := tg_1 (List.mem_of_getElem? (i := 104) rfl) rfl
theorem wd_1_105 : Cond.fieldLinkNest RX10 361 "TurnShifts$OrdersText" "kinds" "[I" "TurnShifts" ∈ nestW := tn_1 (List.mem_of_getElem? (i := 105) rfl) rfl
theorem wd_1_106 : Cond.fieldLink RX3 15 "TurnShifts$OrdersText" "operands" "[I" ∈ gw := tg_1 (List.mem_of_getElem? (i := 106) rfl) rfl
theorem wd_1_107 : Cond.fieldLinkNest RX10 362 "TurnShifts$OrdersText" "operands" "[I" "TurnShifts" ∈ nestW := tn_1 (List.mem_of_getElem? (i := 107) rfl) rfl
theorem wd_1_108 : Cond.fieldLink RX3 18 "TurnShifts$OrdersText" "ties" "[I" ∈ gw := tg_1 (List.mem_of_getElem? (i := 108) rfl) rfl
theorem wd_1_109 : Cond.fieldLinkNest RX10 363 "TurnShifts$OrdersText" "ties" "[I" "TurnShifts" ∈ nestW := tn_1 (List.mem_of_getElem? (i := 109) rfl) rfl
theorem wd_1_110 : Cond.fieldLink RX3 34 "TurnShifts$OrdersText" "lines" "I" ∈ gw := tg_1 (List.mem_of_getElem? (i := 110) rfl) rfl
theorem wd_1_111 : Cond.fieldLinkNest RX10 221 "TurnShifts$OrdersText" "lines" "I" "TurnShifts" ∈ nestW := tn_1 (List.mem_of_getElem? (i := 111) rfl) rfl
theorem wd_1_112 : Cond.laysFinal RX3 "TurnShifts$OrdersText" "scan" "LTurnShifts$Scan;" ∈ gw := tg_1 (List.mem_of_getElem? (i := 112) rfl) rfl
theorem wd_1_114 : Cond.laysFinal RX3 "TurnShifts$OrdersText" "kinds" "[I" ∈ gw := tg_1 (List.mem_of_getElem? (i := 114) rfl) rfl
theorem wd_1_116 : Cond.laysFinal RX3 "TurnShifts$OrdersText" "operands" "[I" ∈ gw := tg_1 (List.mem_of_getElem? (i := 116) rfl) rfl
theorem wd_1_118 : Cond.laysFinal RX3 "TurnShifts$OrdersText" "ties" "[I" ∈ gw := tg_1 (List.mem_of_getElem? (i := 118) rfl) rfl
theorem wd_1_120 : Cond.lays RX3 "TurnShifts$OrdersText" "lines" "I" ∈ gw := tg_1 (List.mem_of_getElem? (i := 120) rfl) rfl
theorem wd_1_125 : Cond.methodLinkNest RX10 36 yX8_init "TurnShifts" ∈ nestW := tn_1 (List.mem_of_getElem? (i := 125) rfl) rfl
theorem wd_1_126 : Cond.instanceMethod yX8_init ∈ gw := tg_1 (List.mem_of_getElem? (i := 126) rfl) rfl
theorem wd_1_127 : Cond.code yX8_init cX8_init 1 none ∈ gw := tg_1 (List.mem_of_getElem? (i := 127) rfl) rfl
theorem wd_1_128 : Cond.methodLink RX8 3 objectInit ∈ gw := tg_1 (List.mem_of_getElem? (i := 128) rfl) rfl
theorem wd_1_129 : Cond.fieldLink RX8 28 "TurnShifts$Unit" "width" "I" ∈ gw := tg_1 (List.mem_of_getElem? (i := 129) rfl) rfl
theorem wd_1_130 : Cond.fieldLinkNest RX7 68 "TurnShifts$Unit" "width" "I" "TurnShifts" ∈ nestW := tn_1 (List.mem_of_getElem? (i := 130) rfl) rfl
theorem wd_1_131 : Cond.fieldLinkNest RX10 117 "TurnShifts$Unit" "width" "I" "TurnShifts" ∈ nestW := tn_1 (List.mem_of_getElem? (i := 131) rfl) rfl
theorem wd_1_132 : Cond.fieldLink RX8 32 "TurnShifts$Unit" "guard" "I" ∈ gw := tg_1 (List.mem_of_getElem? (i := 132) rfl) rfl
theorem wd_1_133 : Cond.fieldLinkNest RX10 118 "TurnShifts$Unit" "guard" "I" "TurnShifts" ∈ nestW := tn_1 (List.mem_of_getElem? (i := 133) rfl) rfl
theorem wd_1_134 : Cond.fieldLinkNest RX7 77 "TurnShifts$Unit" "guard" "I" "TurnShifts" ∈ nestW := tn_1 (List.mem_of_getElem? (i := 134) rfl) rfl
theorem wd_1_135 : Cond.fieldLink RX8 45 "TurnShifts$Unit" "bits" "I" ∈ gw := tg_1 (List.mem_of_getElem? (i := 135) rfl) rfl
theorem wd_1_136 : Cond.fieldLinkNest RX7 80 "TurnShifts$Unit" "bits" "I" "TurnShifts" ∈ nestW := tn_1 (List.mem_of_getElem? (i := 136) rfl) rfl
theorem wd_1_137 : Cond.fieldLink RX8 35 "TurnShifts$Unit" "stages" "I" ∈ gw := tg_1 (List.mem_of_getElem? (i := 137) rfl) rfl
theorem wd_1_138 : Cond.fieldLinkNest RX7 23 "TurnShifts$Unit" "stages" "I" "TurnShifts" ∈ nestW := tn_1 (List.mem_of_getElem? (i := 138) rfl) rfl
theorem wd_1_139 : Cond.fieldLinkNest RX10 116 "TurnShifts$Unit" "stages" "I" "TurnShifts" ∈ nestW := tn_1 (List.mem_of_getElem? (i := 139) rfl) rfl
theorem wd_1_140 : Cond.fieldLinkNest RX1 56 "TurnShifts$Unit" "stages" "I" "TurnShifts" ∈ nestW := tn_1 (List.mem_of_getElem? (i := 140) rfl) rfl
theorem wd_1_141 : Cond.fieldLink RX8 38 "TurnShifts$Unit" "places" "I" ∈ gw := tg_1 (List.mem_of_getElem? (i := 141) rfl) rfl
theorem wd_1_142 : Cond.fieldLinkNest RX10 121 "TurnShifts$Unit" "places" "I" "TurnShifts" ∈ nestW := tn_1 (List.mem_of_getElem? (i := 142) rfl) rfl
theorem wd_1_143 : Cond.fieldLinkNest RX1 61 "TurnShifts$Unit" "places" "I" "TurnShifts" ∈ nestW := tn_1 (List.mem_of_getElem? (i := 143) rfl) rfl
theorem wd_1_144 : Cond.fieldLink RX8 41 "TurnShifts$Unit" "near" "Z" ∈ gw := tg_1 (List.mem_of_getElem? (i := 144) rfl) rfl
theorem wd_1_145 : Cond.fieldLinkNest RX10 124 "TurnShifts$Unit" "near" "Z" "TurnShifts" ∈ nestW := tn_1 (List.mem_of_getElem? (i := 145) rfl) rfl
theorem wd_1_146 : Cond.fieldLink RX8 62 "TurnShifts$Unit" "quarter" "J" ∈ gw := tg_1 (List.mem_of_getElem? (i := 146) rfl) rfl
theorem wd_1_147 : Cond.fieldLinkNest RX10 137 "TurnShifts$Unit" "quarter" "J" "TurnShifts" ∈ nestW := tn_1 (List.mem_of_getElem? (i := 147) rfl) rfl
theorem wd_1_148 : Cond.fieldLinkNest RX7 93 "TurnShifts$Unit" "quarter" "J" "TurnShifts" ∈ nestW := tn_1 (List.mem_of_getElem? (i := 148) rfl) rfl
theorem wd_1_149 : Cond.fieldLink RX8 56 "TurnShifts$Unit" "eighth" "J" ∈ gw := tg_1 (List.mem_of_getElem? (i := 149) rfl) rfl
theorem wd_1_150 : Cond.fieldLinkNest RX10 144 "TurnShifts$Unit" "eighth" "J" "TurnShifts" ∈ nestW := tn_1 (List.mem_of_getElem? (i := 150) rfl) rfl
theorem wd_1_151 : Cond.fieldLink RX8 69 "TurnShifts$Unit" "ln" "J" ∈ gw := tg_1 (List.mem_of_getElem? (i := 151) rfl) rfl
theorem wd_1_152 : Cond.fieldLinkNest RX10 141 "TurnShifts$Unit" "ln" "J" "TurnShifts" ∈ nestW := tn_1 (List.mem_of_getElem? (i := 152) rfl) rfl
theorem wd_1_153 : Cond.fieldLinkNest RX7 113 "TurnShifts$Unit" "ln" "J" "TurnShifts" ∈ nestW := tn_1 (List.mem_of_getElem? (i := 153) rfl) rfl
theorem wd_1_154 : Cond.fieldLink RX8 9 "TurnShifts$Unit" "shifts" "[I" ∈ gw := tg_1 (List.mem_of_getElem? (i := 154) rfl) rfl
theorem wd_1_155 : Cond.fieldLinkNest RX10 151 "TurnShifts$Unit" "shifts" "[I" "TurnShifts" ∈ nestW := tn_1 (List.mem_of_getElem? (i := 155) rfl) rfl
theorem wd_1_156 : Cond.fieldLinkNest RX7 171 "TurnShifts$Unit" "shifts" "[I" "TurnShifts" ∈ nestW := tn_1 (List.mem_of_getElem? (i := 156) rfl) rfl
theorem wd_1_157 : Cond.fieldLink RX8 15 "TurnShifts$Unit" "angles" "[J" ∈ gw := tg_1 (List.mem_of_getElem? (i := 157) rfl) rfl
theorem wd_1_158 : Cond.fieldLinkNest RX10 154 "TurnShifts$Unit" "angles" "[J" "TurnShifts" ∈ nestW := tn_1 (List.mem_of_getElem? (i := 158) rfl) rfl
theorem wd_1_159 : Cond.fieldLinkNest RX7 174 "TurnShifts$Unit" "angles" "[J" "TurnShifts" ∈ nestW := tn_1 (List.mem_of_getElem? (i := 159) rfl) rfl
theorem wd_1_160 : Cond.fieldLink RX8 19 "TurnShifts$Unit" "gains" "[J" ∈ gw := tg_1 (List.mem_of_getElem? (i := 160) rfl) rfl
theorem wd_1_161 : Cond.fieldLinkNest RX10 162 "TurnShifts$Unit" "gains" "[J" "TurnShifts" ∈ nestW := tn_1 (List.mem_of_getElem? (i := 161) rfl) rfl
theorem wd_1_162 : Cond.fieldLink RX8 22 "TurnShifts$Unit" "undos" "[J" ∈ gw := tg_1 (List.mem_of_getElem? (i := 162) rfl) rfl
theorem wd_1_163 : Cond.fieldLinkNest RX7 89 "TurnShifts$Unit" "undos" "[J" "TurnShifts" ∈ nestW := tn_1 (List.mem_of_getElem? (i := 163) rfl) rfl
theorem wd_1_164 : Cond.fieldLinkNest RX10 165 "TurnShifts$Unit" "undos" "[J" "TurnShifts" ∈ nestW := tn_1 (List.mem_of_getElem? (i := 164) rfl) rfl
theorem wd_1_165 : Cond.fieldLink RX8 25 "TurnShifts$Unit" "digits" "[I" ∈ gw := tg_1 (List.mem_of_getElem? (i := 165) rfl) rfl
theorem wd_1_166 : Cond.fieldLinkNest RX10 178 "TurnShifts$Unit" "digits" "[I" "TurnShifts" ∈ nestW := tn_1 (List.mem_of_getElem? (i := 166) rfl) rfl
theorem wd_1_167 : Cond.lays RX8 "TurnShifts$Unit" "width" "I" ∈ gw := tg_1 (List.mem_of_getElem? (i := 167) rfl) rfl
theorem wd_1_169 : Cond.lays RX8 "TurnShifts$Unit" "guard" "I" ∈ gw := tg_1 (List.mem_of_getElem? (i := 169) rfl) rfl
theorem wd_1_171 : Cond.lays RX8 "TurnShifts$Unit" "bits" "I" ∈ gw := tg_1 (List.mem_of_getElem? (i := 171) rfl) rfl
theorem wd_1_173 : Cond.lays RX8 "TurnShifts$Unit" "stages" "I" ∈ gw := tg_1 (List.mem_of_getElem? (i := 173) rfl) rfl
theorem wd_1_175 : Cond.lays RX8 "TurnShifts$Unit" "places" "I" ∈ gw := tg_1 (List.mem_of_getElem? (i := 175) rfl) rfl
theorem wd_1_177 : Cond.lays RX8 "TurnShifts$Unit" "near" "Z" ∈ gw := tg_1 (List.mem_of_getElem? (i := 177) rfl) rfl
theorem wd_1_179 : Cond.lays RX8 "TurnShifts$Unit" "quarter" "J" ∈ gw := tg_1 (List.mem_of_getElem? (i := 179) rfl) rfl
theorem wd_1_181 : Cond.lays RX8 "TurnShifts$Unit" "eighth" "J" ∈ gw := tg_1 (List.mem_of_getElem? (i := 181) rfl) rfl
theorem wd_1_183 : Cond.lays RX8 "TurnShifts$Unit" "ln" "J" ∈ gw := tg_1 (List.mem_of_getElem? (i := 183) rfl) rfl
theorem wd_1_185 : Cond.laysFinal RX8 "TurnShifts$Unit" "shifts" "[I" ∈ gw := tg_1 (List.mem_of_getElem? (i := 185) rfl) rfl
theorem wd_1_187 : Cond.laysFinal RX8 "TurnShifts$Unit" "angles" "[J" ∈ gw := tg_1 (List.mem_of_getElem? (i := 187) rfl) rfl
theorem wd_1_189 : Cond.laysFinal RX8 "TurnShifts$Unit" "gains" "[J" ∈ gw := tg_1 (List.mem_of_getElem? (i := 189) rfl) rfl
theorem wd_1_191 : Cond.laysFinal RX8 "TurnShifts$Unit" "undos" "[J" ∈ gw := tg_1 (List.mem_of_getElem? (i := 191) rfl) rfl
theorem wd_1_193 : Cond.laysFinal RX8 "TurnShifts$Unit" "digits" "[I" ∈ gw := tg_1 (List.mem_of_getElem? (i := 193) rfl) rfl
theorem wd_1_199 : Cond.methodLinkNest RX10 43 yX7_init "TurnShifts" ∈ nestW := tn_1 (List.mem_of_getElem? (i := 199) rfl) rfl
theorem wd_1_200 : Cond.instanceMethod yX7_init ∈ gw := tg_1 (List.mem_of_getElem? (i := 200) rfl) rfl
theorem wd_1_201 : Cond.code yX7_init cX7_init 2 none ∈ gw := tg_1 (List.mem_of_getElem? (i := 201) rfl) rfl
theorem wd_1_202 : Cond.methodLink RX7 3 objectInit ∈ gw := tg_1 (List.mem_of_getElem? (i := 202) rfl) rfl
theorem wd_1_203 : Cond.fieldLink RX7 9 "TurnShifts$Turner" "unit" "LTurnShifts$Unit;" ∈ gw := tg_1 (List.mem_of_getElem? (i := 203) rfl) rfl
theorem wd_1_204 : Cond.fieldLinkNest RX1 68 "TurnShifts$Turner" "unit" "LTurnShifts$Unit;" "TurnShifts" ∈ nestW := tn_1 (List.mem_of_getElem? (i := 204) rfl) rfl
theorem wd_1_205 : Cond.fieldLink RX7 130 "TurnShifts$Turner" "x" "J" ∈ gw := tg_1 (List.mem_of_getElem? (i := 205) rfl) rfl
theorem wd_1_206 : Cond.fieldLinkNest RX10 298 "TurnShifts$Turner" "x" "J" "TurnShifts" ∈ nestW := tn_1 (List.mem_of_getElem? (i := 206) rfl) rfl
theorem wd_1_207 : Cond.fieldLink RX7 133 "TurnShifts$Turner" "y" "J" ∈ gw := tg_1 (List.mem_of_getElem? (i := 207) rfl) rfl
theorem wd_1_208 : Cond.fieldLinkNest RX1 129 "TurnShifts$Turner" "y" "J" "TurnShifts" ∈ nestW := tn_1 (List.mem_of_getElem? (i := 208) rfl) rfl
theorem wd_1_209 : Cond.fieldLinkNest RX10 301 "TurnShifts$Turner" "y" "J" "TurnShifts" ∈ nestW := tn_1 (List.mem_of_getElem? (i := 209) rfl) rfl
theorem wd_1_210 : Cond.fieldLink RX7 136 "TurnShifts$Turner" "z" "J" ∈ gw := tg_1 (List.mem_of_getElem? (i := 210) rfl) rfl
theorem wd_1_211 : Cond.fieldLinkNest RX1 125 "TurnShifts$Turner" "z" "J" "TurnShifts" ∈ nestW := tn_1 (List.mem_of_getElem? (i := 211) rfl) rfl
theorem wd_1_212 : Cond.fieldLinkNest RX10 304 "TurnShifts$Turner" "z" "J" "TurnShifts" ∈ nestW := tn_1 (List.mem_of_getElem? (i := 212) rfl) rfl
theorem wd_1_213 : Cond.fieldLink RX7 83 "TurnShifts$Turner" "upBits" "I" ∈ gw := tg_1 (List.mem_of_getElem? (i := 213) rfl) rfl
theorem wd_1_214 : Cond.fieldLinkNest RX10 307 "TurnShifts$Turner" "upBits" "I" "TurnShifts" ∈ nestW := tn_1 (List.mem_of_getElem? (i := 214) rfl) rfl
theorem wd_1_215 : Cond.fieldLink RX7 86 "TurnShifts$Turner" "steps" "I" ∈ gw := tg_1 (List.mem_of_getElem? (i := 215) rfl) rfl
theorem wd_1_216 : Cond.fieldLink RX7 37 "TurnShifts$Turner" "first" "J" ∈ gw := tg_1 (List.mem_of_getElem? (i := 216) rfl) rfl
theorem wd_1_217 : Cond.fieldLinkNest RX10 341 "TurnShifts$Turner" "first" "J" "TurnShifts" ∈ nestW := tn_1 (List.mem_of_getElem? (i := 217) rfl) rfl
theorem wd_1_218 : Cond.fieldLink RX7 41 "TurnShifts$Turner" "second" "J" ∈ gw := tg_1 (List.mem_of_getElem? (i := 218) rfl) rfl
theorem wd_1_219 : Cond.laysFinal RX7 "TurnShifts$Turner" "unit" "LTurnShifts$Unit;" ∈ gw := tg_1 (List.mem_of_getElem? (i := 219) rfl) rfl
theorem wd_1_221 : Cond.lays RX7 "TurnShifts$Turner" "x" "J" ∈ gw := tg_1 (List.mem_of_getElem? (i := 221) rfl) rfl
theorem wd_1_223 : Cond.lays RX7 "TurnShifts$Turner" "y" "J" ∈ gw := tg_1 (List.mem_of_getElem? (i := 223) rfl) rfl
theorem wd_1_225 : Cond.lays RX7 "TurnShifts$Turner" "z" "J" ∈ gw := tg_1 (List.mem_of_getElem? (i := 225) rfl) rfl
theorem wd_1_227 : Cond.lays RX7 "TurnShifts$Turner" "upBits" "I" ∈ gw := tg_1 (List.mem_of_getElem? (i := 227) rfl) rfl
theorem wd_1_229 : Cond.lays RX7 "TurnShifts$Turner" "steps" "I" ∈ gw := tg_1 (List.mem_of_getElem? (i := 229) rfl) rfl
theorem wd_1_231 : Cond.lays RX7 "TurnShifts$Turner" "first" "J" ∈ gw := tg_1 (List.mem_of_getElem? (i := 231) rfl) rfl
theorem wd_1_233 : Cond.lays RX7 "TurnShifts$Turner" "second" "J" ∈ gw := tg_1 (List.mem_of_getElem? (i := 233) rfl) rfl
theorem wd_1_236 : Cond.methodLinkNest RX10 50 yX8_build "TurnShifts" ∈ nestW := tn_1 (List.mem_of_getElem? (i := 236) rfl) rfl
theorem wd_1_238 : Cond.instanceMethod yX8_build ∈ gw := tg_1 (List.mem_of_getElem? (i := 238) rfl) rfl
theorem wd_1_239 : Cond.code yX8_build cX8_build 7 none ∈ gw := tg_1 (List.mem_of_getElem? (i := 239) rfl) rfl
theorem wd_2_0 : Cond.methodLink RX8 48 yX8_eighthTurn ∈ gw := tg_2 (List.mem_of_getElem? (i := 0) rfl) rfl
theorem wd_2_1 : Cond.static yX8_eighthTurn ∈ gw := tg_2 (List.mem_of_getElem? (i := 1) rfl) rfl
theorem wd_2_2 : Cond.code yX8_eighthTurn cX8_eighthTurn 0 (some .long) ∈ gw := tg_2 (List.mem_of_getElem? (i := 2) rfl) rfl
theorem wd_2_3 : Cond.constantLong RX8 91 4 ∈ gw := tg_2 (List.mem_of_getElem? (i := 3) rfl) rfl
theorem wd_2_4 : Cond.methodLink RX8 65 yX8_ofOneOver ∈ gw := tg_2 (List.mem_of_getElem? (i := 4) rfl) rfl
theorem wd_2_5 : Cond.static yX8_ofOneOver ∈ gw := tg_2 (List.mem_of_getElem? (i := 5) rfl) rfl
theorem wd_2_6 : Cond.code yX8_ofOneOver cX8_ofOneOver 9 (some .long) ∈ gw := tg_2 (List.mem_of_getElem? (i := 6) rfl) rfl
theorem wd_2_7 : Cond.constantLong RX8 89 72057594037927936 ∈ gw := tg_2 (List.mem_of_getElem? (i := 7) rfl) rfl
theorem wd_2_8 : Cond.methodLink RX8 52 yX8_rounded ∈ gw := tg_2 (List.mem_of_getElem? (i := 8) rfl) rfl
theorem wd_2_10 : Cond.instanceMethod yX8_rounded ∈ gw := tg_2 (List.mem_of_getElem? (i := 10) rfl) rfl
theorem wd_2_11 : Cond.code yX8_rounded cX8_rounded 3 (some .long) ∈ gw := tg_2 (List.mem_of_getElem? (i := 11) rfl) rfl
theorem wd_2_12 : Cond.constantLong RX8 60 2 ∈ gw := tg_2 (List.mem_of_getElem? (i := 12) rfl) rfl
theorem wd_2_13 : Cond.methodLink RX8 72 yX8_fillShifts ∈ gw := tg_2 (List.mem_of_getElem? (i := 13) rfl) rfl
theorem wd_2_15 : Cond.instanceMethod yX8_fillShifts ∈ gw := tg_2 (List.mem_of_getElem? (i := 15) rfl) rfl
theorem wd_2_16 : Cond.code yX8_fillShifts cX8_fillShifts 5 none ∈ gw := tg_2 (List.mem_of_getElem? (i := 16) rfl) rfl
theorem wd_2_17 : Cond.methodLink RX8 76 yX8_fillAngles ∈ gw := tg_2 (List.mem_of_getElem? (i := 17) rfl) rfl
theorem wd_2_19 : Cond.instanceMethod yX8_fillAngles ∈ gw := tg_2 (List.mem_of_getElem? (i := 19) rfl) rfl
theorem wd_2_20 : Cond.code yX8_fillAngles cX8_fillAngles 4 none ∈ gw := tg_2 (List.mem_of_getElem? (i := 20) rfl) rfl
theorem wd_2_21 : Cond.methodLink RX8 93 yX8_powerFor ∈ gw := tg_2 (List.mem_of_getElem? (i := 21) rfl) rfl
theorem wd_2_23 : Cond.instanceMethod yX8_powerFor ∈ gw := tg_2 (List.mem_of_getElem? (i := 23) rfl) rfl
theorem wd_2_24 : Cond.code yX8_powerFor cX8_powerFor 2 (some .long) ∈ gw := tg_2 (List.mem_of_getElem? (i := 24) rfl) rfl
theorem wd_2_25 : Cond.methodLink RX8 96 yX8_ofShift ∈ gw := tg_2 (List.mem_of_getElem? (i := 25) rfl) rfl
theorem wd_2_26 : Cond.static yX8_ofShift ∈ gw := tg_2 (List.mem_of_getElem? (i := 26) rfl) rfl
theorem wd_2_27 : Cond.code yX8_ofShift cX8_ofShift 7 (some .long) ∈ gw := tg_2 (List.mem_of_getElem? (i := 27) rfl) rfl
theorem wd_2_28 : Cond.methodLink RX8 79 yX8_square ∈ gw := tg_2 (List.mem_of_getElem? (i := 28) rfl) rfl
theorem wd_2_30 : Cond.instanceMethod yX8_square ∈ gw := tg_2 (List.mem_of_getElem? (i := 30) rfl) rfl
theorem wd_2_31 : Cond.code yX8_square cX8_square 7 (some .long) ∈ gw := tg_2 (List.mem_of_getElem? (i := 31) rfl) rfl
theorem wd_2_32 : Cond.constantLong RX8 99 18014398509481984 ∈ gw := tg_2 (List.mem_of_getElem? (i := 32) rfl) rfl
theorem wd_2_33 : Cond.methodLink RX8 83 yX8_rootOf ∈ gw := tg_2 (List.mem_of_getElem? (i := 33) rfl) rfl
theorem wd_2_34 : Cond.static yX8_rootOf ∈ gw := tg_2 (List.mem_of_getElem? (i := 34) rfl) rfl
theorem wd_2_35 : Cond.code yX8_rootOf cX8_rootOf 7 (some .long) ∈ gw := tg_2 (List.mem_of_getElem? (i := 35) rfl) rfl
theorem wd_2_36 : Cond.methodLink RX8 86 yX8_fillDigits ∈ gw := tg_2 (List.mem_of_getElem? (i := 36) rfl) rfl
theorem wd_2_38 : Cond.instanceMethod yX8_fillDigits ∈ gw := tg_2 (List.mem_of_getElem? (i := 38) rfl) rfl
theorem wd_2_39 : Cond.code yX8_fillDigits cX8_fillDigits 6 none ∈ gw := tg_2 (List.mem_of_getElem? (i := 39) rfl) rfl
theorem wd_2_40 : Cond.constantLong RX8 101 3 ∈ gw := tg_2 (List.mem_of_getElem? (i := 40) rfl) rfl
theorem wd_2_43 : Cond.methodLinkNest RX10 59 yX1_init "TurnShifts" ∈ nestW := tn_2 (List.mem_of_getElem? (i := 43) rfl) rfl
theorem wd_2_44 : Cond.instanceMethod yX1_init ∈ gw := tg_2 (List.mem_of_getElem? (i := 44) rfl) rfl
theorem wd_2_45 : Cond.code yX1_init cX1_init 1 none ∈ gw := tg_2 (List.mem_of_getElem? (i := 45) rfl) rfl
theorem wd_2_46 : Cond.methodLink RX1 3 objectInit ∈ gw := tg_2 (List.mem_of_getElem? (i := 46) rfl) rfl
theorem wd_2_47 : Cond.fieldLink RX1 9 "TurnShifts$Book" "kinds" "[I" ∈ gw := tg_2 (List.mem_of_getElem? (i := 47) rfl) rfl
theorem wd_2_48 : Cond.fieldLinkNest RX10 260 "TurnShifts$Book" "kinds" "[I" "TurnShifts" ∈ nestW := tn_2 (List.mem_of_getElem? (i := 48) rfl) rfl
theorem wd_2_49 : Cond.fieldLink RX1 15 "TurnShifts$Book" "operands" "[I" ∈ gw := tg_2 (List.mem_of_getElem? (i := 49) rfl) rfl
theorem wd_2_50 : Cond.fieldLinkNest RX10 284 "TurnShifts$Book" "operands" "[I" "TurnShifts" ∈ nestW := tn_2 (List.mem_of_getElem? (i := 50) rfl) rfl
theorem wd_2_51 : Cond.fieldLink RX1 18 "TurnShifts$Book" "ties" "[I" ∈ gw := tg_2 (List.mem_of_getElem? (i := 51) rfl) rfl
theorem wd_2_52 : Cond.fieldLinkNest RX10 246 "TurnShifts$Book" "ties" "[I" "TurnShifts" ∈ nestW := tn_2 (List.mem_of_getElem? (i := 52) rfl) rfl
theorem wd_2_53 : Cond.fieldLink RX1 21 "TurnShifts$Book" "states" "[I" ∈ gw := tg_2 (List.mem_of_getElem? (i := 53) rfl) rfl
theorem wd_2_54 : Cond.fieldLinkNest RX10 233 "TurnShifts$Book" "states" "[I" "TurnShifts" ∈ nestW := tn_2 (List.mem_of_getElem? (i := 54) rfl) rfl
theorem wd_2_55 : Cond.fieldLink RX1 24 "TurnShifts$Book" "gone" "[I" ∈ gw := tg_2 (List.mem_of_getElem? (i := 55) rfl) rfl
theorem wd_2_56 : Cond.fieldLinkNest RX10 263 "TurnShifts$Book" "gone" "[I" "TurnShifts" ∈ nestW := tn_2 (List.mem_of_getElem? (i := 56) rfl) rfl
theorem wd_2_57 : Cond.fieldLink RX1 27 "TurnShifts$Book" "toldIn" "[I" ∈ gw := tg_2 (List.mem_of_getElem? (i := 57) rfl) rfl
theorem wd_2_58 : Cond.fieldLink RX1 30 "TurnShifts$Book" "broughtIn" "[I" ∈ gw := tg_2 (List.mem_of_getElem? (i := 58) rfl) rfl
theorem wd_2_59 : Cond.fieldLinkNest RX10 266 "TurnShifts$Book" "broughtIn" "[I" "TurnShifts" ∈ nestW := tn_2 (List.mem_of_getElem? (i := 59) rfl) rfl
theorem wd_2_60 : Cond.fieldLink RX1 33 "TurnShifts$Book" "doneIn" "[I" ∈ gw := tg_2 (List.mem_of_getElem? (i := 60) rfl) rfl
theorem wd_2_61 : Cond.fieldLinkNest RX10 269 "TurnShifts$Book" "doneIn" "[I" "TurnShifts" ∈ nestW := tn_2 (List.mem_of_getElem? (i := 61) rfl) rfl
theorem wd_2_62 : Cond.fieldLink RX1 36 "TurnShifts$Book" "jobs" "I" ∈ gw := tg_2 (List.mem_of_getElem? (i := 62) rfl) rfl
theorem wd_2_63 : Cond.fieldLinkNest RX10 128 "TurnShifts$Book" "jobs" "I" "TurnShifts" ∈ nestW := tn_2 (List.mem_of_getElem? (i := 63) rfl) rfl
theorem wd_2_64 : Cond.fieldLink RX1 40 "TurnShifts$Book" "over" "I" ∈ gw := tg_2 (List.mem_of_getElem? (i := 64) rfl) rfl
theorem wd_2_65 : Cond.fieldLink RX1 43 "TurnShifts$Book" "clocks" "I" ∈ gw := tg_2 (List.mem_of_getElem? (i := 65) rfl) rfl
theorem wd_2_66 : Cond.fieldLinkNest RX10 125 "TurnShifts$Book" "clocks" "I" "TurnShifts" ∈ nestW := tn_2 (List.mem_of_getElem? (i := 66) rfl) rfl
theorem wd_2_67 : Cond.fieldLink RX1 46 "TurnShifts$Book" "held" "Z" ∈ gw := tg_2 (List.mem_of_getElem? (i := 67) rfl) rfl
theorem wd_2_68 : Cond.fieldLinkNest RX10 134 "TurnShifts$Book" "held" "Z" "TurnShifts" ∈ nestW := tn_2 (List.mem_of_getElem? (i := 68) rfl) rfl
theorem wd_2_69 : Cond.laysFinal RX1 "TurnShifts$Book" "kinds" "[I" ∈ gw := tg_2 (List.mem_of_getElem? (i := 69) rfl) rfl
theorem wd_2_71 : Cond.laysFinal RX1 "TurnShifts$Book" "operands" "[I" ∈ gw := tg_2 (List.mem_of_getElem? (i := 71) rfl) rfl
theorem wd_2_73 : Cond.laysFinal RX1 "TurnShifts$Book" "ties" "[I" ∈ gw := tg_2 (List.mem_of_getElem? (i := 73) rfl) rfl
theorem wd_2_75 : Cond.laysFinal RX1 "TurnShifts$Book" "states" "[I" ∈ gw := tg_2 (List.mem_of_getElem? (i := 75) rfl) rfl
theorem wd_2_77 : Cond.laysFinal RX1 "TurnShifts$Book" "gone" "[I" ∈ gw := tg_2 (List.mem_of_getElem? (i := 77) rfl) rfl
theorem wd_2_79 : Cond.laysFinal RX1 "TurnShifts$Book" "toldIn" "[I" ∈ gw := tg_2 (List.mem_of_getElem? (i := 79) rfl) rfl
theorem wd_2_81 : Cond.laysFinal RX1 "TurnShifts$Book" "broughtIn" "[I" ∈ gw := tg_2 (List.mem_of_getElem? (i := 81) rfl) rfl
theorem wd_2_83 : Cond.laysFinal RX1 "TurnShifts$Book" "doneIn" "[I" ∈ gw := tg_2 (List.mem_of_getElem? (i := 83) rfl) rfl
theorem wd_2_85 : Cond.lays RX1 "TurnShifts$Book" "jobs" "I" ∈ gw := tg_2 (List.mem_of_getElem? (i := 85) rfl) rfl
theorem wd_2_87 : Cond.lays RX1 "TurnShifts$Book" "over" "I" ∈ gw := tg_2 (List.mem_of_getElem? (i := 87) rfl) rfl
theorem wd_2_89 : Cond.lays RX1 "TurnShifts$Book" "clocks" "I" ∈ gw := tg_2 (List.mem_of_getElem? (i := 89) rfl) rfl
theorem wd_2_91 : Cond.lays RX1 "TurnShifts$Book" "held" "Z" ∈ gw := tg_2 (List.mem_of_getElem? (i := 91) rfl) rfl
theorem wd_2_94 : Cond.fieldLink RX10 12 "TurnShifts" "tape" "LTurnShifts$Tape;" ∈ gw := tg_2 (List.mem_of_getElem? (i := 94) rfl) rfl
theorem wd_2_95 : Cond.fieldLink RX10 23 "TurnShifts" "unitText" "LTurnShifts$UnitText;" ∈ gw := tg_2 (List.mem_of_getElem? (i := 95) rfl) rfl
theorem wd_2_96 : Cond.fieldLink RX10 30 "TurnShifts" "ordersText" "LTurnShifts$OrdersText;" ∈ gw := tg_2 (List.mem_of_getElem? (i := 96) rfl) rfl
theorem wd_2_97 : Cond.fieldLink RX10 37 "TurnShifts" "own" "LTurnShifts$Unit;" ∈ gw := tg_2 (List.mem_of_getElem? (i := 97) rfl) rfl
theorem wd_2_98 : Cond.fieldLink RX10 46 "TurnShifts" "turner" "LTurnShifts$Turner;" ∈ gw := tg_2 (List.mem_of_getElem? (i := 98) rfl) rfl
theorem wd_2_99 : Cond.fieldLink RX10 54 "TurnShifts" "finestTurner" "LTurnShifts$Turner;" ∈ gw := tg_2 (List.mem_of_getElem? (i := 99) rfl) rfl
theorem wd_2_100 : Cond.fieldLink RX10 60 "TurnShifts" "book" "LTurnShifts$Book;" ∈ gw := tg_2 (List.mem_of_getElem? (i := 100) rfl) rfl
theorem wd_2_101 : Cond.fieldLink RX10 64 "TurnShifts" "kept" "LTurnShifts$Book;" ∈ gw := tg_2 (List.mem_of_getElem? (i := 101) rfl) rfl
theorem wd_2_102 : Cond.fieldLink RX10 67 "TurnShifts" "ahead" "LTurnShifts$Book;" ∈ gw := tg_2 (List.mem_of_getElem? (i := 102) rfl) rfl
theorem wd_2_103 : Cond.fieldLink RX10 70 "TurnShifts" "refusals" "[I" ∈ gw := tg_2 (List.mem_of_getElem? (i := 103) rfl) rfl
theorem wd_2_104 : Cond.fieldLink RX10 110 "TurnShifts" "hasUnit" "Z" ∈ gw := tg_2 (List.mem_of_getElem? (i := 104) rfl) rfl
theorem wd_2_105 : Cond.fieldLink RX10 113 "TurnShifts" "hasImage" "Z" ∈ gw := tg_2 (List.mem_of_getElem? (i := 105) rfl) rfl
theorem wd_2_106 : Cond.laysFinal RX10 "TurnShifts" "tape" "LTurnShifts$Tape;" ∈ gw := tg_2 (List.mem_of_getElem? (i := 106) rfl) rfl
theorem wd_2_108 : Cond.laysFinal RX10 "TurnShifts" "unitText" "LTurnShifts$UnitText;" ∈ gw := tg_2 (List.mem_of_getElem? (i := 108) rfl) rfl
theorem wd_2_110 : Cond.laysFinal RX10 "TurnShifts" "ordersText" "LTurnShifts$OrdersText;" ∈ gw := tg_2 (List.mem_of_getElem? (i := 110) rfl) rfl
theorem wd_2_112 : Cond.laysFinal RX10 "TurnShifts" "own" "LTurnShifts$Unit;" ∈ gw := tg_2 (List.mem_of_getElem? (i := 112) rfl) rfl
theorem wd_2_114 : Cond.laysFinal RX10 "TurnShifts" "turner" "LTurnShifts$Turner;" ∈ gw := tg_2 (List.mem_of_getElem? (i := 114) rfl) rfl
theorem wd_2_116 : Cond.laysFinal RX10 "TurnShifts" "finestTurner" "LTurnShifts$Turner;" ∈ gw := tg_2 (List.mem_of_getElem? (i := 116) rfl) rfl
theorem wd_2_118 : Cond.laysFinal RX10 "TurnShifts" "book" "LTurnShifts$Book;" ∈ gw := tg_2 (List.mem_of_getElem? (i := 118) rfl) rfl
theorem wd_2_120 : Cond.laysFinal RX10 "TurnShifts" "kept" "LTurnShifts$Book;" ∈ gw := tg_2 (List.mem_of_getElem? (i := 120) rfl) rfl
theorem wd_2_122 : Cond.laysFinal RX10 "TurnShifts" "ahead" "LTurnShifts$Book;" ∈ gw := tg_2 (List.mem_of_getElem? (i := 122) rfl) rfl
theorem wd_2_124 : Cond.laysFinal RX10 "TurnShifts" "refusals" "[I" ∈ gw := tg_2 (List.mem_of_getElem? (i := 124) rfl) rfl
theorem wd_2_126 : Cond.lays RX10 "TurnShifts" "hasUnit" "Z" ∈ gw := tg_2 (List.mem_of_getElem? (i := 126) rfl) rfl
theorem wd_2_128 : Cond.lays RX10 "TurnShifts" "hasImage" "Z" ∈ gw := tg_2 (List.mem_of_getElem? (i := 128) rfl) rfl
theorem wd_2_131 : Cond.methodLink RL 19 yX10_feed ∈ gw := tg_2 (List.mem_of_getElem? (i := 131) rfl) rfl
theorem wd_2_132 : Cond.instanceMethod yX10_feed ∈ gw := tg_2 (List.mem_of_getElem? (i := 132) rfl) rfl
theorem wd_2_133 : Cond.selects RX10 yX10_feed yX10_feed ∈ gw := tg_2 (List.mem_of_getElem? (i := 133) rfl) rfl
theorem wd_2_134 : Cond.code yX10_feed cX10_feed 7 (some .int) ∈ gw := tg_2 (List.mem_of_getElem? (i := 134) rfl) rfl
theorem wd_2_135 : Cond.methodLinkNest RX10 74 yX6_bytesTold "TurnShifts" ∈ nestW := tn_2 (List.mem_of_getElem? (i := 135) rfl) rfl
theorem wd_2_136 : Cond.static yX6_bytesTold ∈ gw := tg_2 (List.mem_of_getElem? (i := 136) rfl) rfl
theorem wd_2_137 : Cond.code yX6_bytesTold cX6_bytesTold 3 (some .int) ∈ gw := tg_2 (List.mem_of_getElem? (i := 137) rfl) rfl
theorem wd_2_138 : Cond.methodLinkNest RX10 82 yX6_append "TurnShifts" ∈ nestW := tn_2 (List.mem_of_getElem? (i := 138) rfl) rfl
theorem wd_2_140 : Cond.instanceMethod yX6_append ∈ gw := tg_2 (List.mem_of_getElem? (i := 140) rfl) rfl
theorem wd_2_141 : Cond.code yX6_append cX6_append 4 none ∈ gw := tg_2 (List.mem_of_getElem? (i := 141) rfl) rfl
theorem wd_2_142 : Cond.methodLink RL 24 yX10_end ∈ gw := tg_2 (List.mem_of_getElem? (i := 142) rfl) rfl
theorem wd_2_143 : Cond.instanceMethod yX10_end ∈ gw := tg_2 (List.mem_of_getElem? (i := 143) rfl) rfl
theorem wd_2_144 : Cond.selects RX10 yX10_end yX10_end ∈ gw := tg_2 (List.mem_of_getElem? (i := 144) rfl) rfl
theorem wd_2_145 : Cond.code yX10_end cX10_end 2 (some .boolean) ∈ gw := tg_2 (List.mem_of_getElem? (i := 145) rfl) rfl
theorem wd_2_146 : Cond.methodLink RL 29 yX10_fault ∈ gw := tg_2 (List.mem_of_getElem? (i := 146) rfl) rfl
theorem wd_2_147 : Cond.instanceMethod yX10_fault ∈ gw := tg_2 (List.mem_of_getElem? (i := 147) rfl) rfl
theorem wd_2_148 : Cond.selects RX10 yX10_fault yX10_fault ∈ gw := tg_2 (List.mem_of_getElem? (i := 148) rfl) rfl
theorem wd_2_149 : Cond.code yX10_fault cX10_fault 2 (some .int) ∈ gw := tg_2 (List.mem_of_getElem? (i := 149) rfl) rfl
theorem wd_2_150 : Cond.methodLinkNest RX10 86 yX9_read "TurnShifts" ∈ nestW := tn_2 (List.mem_of_getElem? (i := 150) rfl) rfl
theorem wd_2_152 : Cond.instanceMethod yX9_read ∈ gw := tg_2 (List.mem_of_getElem? (i := 152) rfl) rfl
theorem wd_2_153 : Cond.code yX9_read cX9_read 3 (some .int) ∈ gw := tg_2 (List.mem_of_getElem? (i := 153) rfl) rfl
theorem wd_2_154 : Cond.methodLink RX9 20 yX9_forget ∈ gw := tg_2 (List.mem_of_getElem? (i := 154) rfl) rfl
theorem wd_2_156 : Cond.instanceMethod yX9_forget ∈ gw := tg_2 (List.mem_of_getElem? (i := 156) rfl) rfl
theorem wd_2_157 : Cond.code yX9_forget cX9_forget 1 none ∈ gw := tg_2 (List.mem_of_getElem? (i := 157) rfl) rfl
theorem wd_2_158 : Cond.methodLink RX9 23 yX9_readPiece ∈ gw := tg_2 (List.mem_of_getElem? (i := 158) rfl) rfl
theorem wd_2_160 : Cond.instanceMethod yX9_readPiece ∈ gw := tg_2 (List.mem_of_getElem? (i := 160) rfl) rfl
theorem wd_2_161 : Cond.code yX9_readPiece cX9_readPiece 3 (some .int) ∈ gw := tg_2 (List.mem_of_getElem? (i := 161) rfl) rfl
theorem wd_2_162 : Cond.methodLinkNest RX9 27 yX5_skipBlanks "TurnShifts" ∈ nestW := tn_2 (List.mem_of_getElem? (i := 162) rfl) rfl
theorem wd_2_164 : Cond.instanceMethod yX5_skipBlanks ∈ gw := tg_2 (List.mem_of_getElem? (i := 164) rfl) rfl
theorem wd_2_165 : Cond.code yX5_skipBlanks cX5_skipBlanks 1 none ∈ gw := tg_2 (List.mem_of_getElem? (i := 165) rfl) rfl
theorem wd_2_166 : Cond.methodLink RX5 26 yX5_here ∈ gw := tg_2 (List.mem_of_getElem? (i := 166) rfl) rfl
theorem wd_2_168 : Cond.instanceMethod yX5_here ∈ gw := tg_2 (List.mem_of_getElem? (i := 168) rfl) rfl
theorem wd_2_169 : Cond.code yX5_here cX5_here 1 (some .int) ∈ gw := tg_2 (List.mem_of_getElem? (i := 169) rfl) rfl
theorem wd_2_170 : Cond.methodLinkNest RX9 60 yX5_passLetters "TurnShifts" ∈ nestW := tn_2 (List.mem_of_getElem? (i := 170) rfl) rfl
theorem wd_2_172 : Cond.instanceMethod yX5_passLetters ∈ gw := tg_2 (List.mem_of_getElem? (i := 172) rfl) rfl
theorem wd_2_173 : Cond.code yX5_passLetters cX5_passLetters 1 none ∈ gw := tg_2 (List.mem_of_getElem? (i := 173) rfl) rfl
theorem wd_2_174 : Cond.methodLink RX5 30 yX5_isOnLetter ∈ gw := tg_2 (List.mem_of_getElem? (i := 174) rfl) rfl
theorem wd_2_176 : Cond.instanceMethod yX5_isOnLetter ∈ gw := tg_2 (List.mem_of_getElem? (i := 176) rfl) rfl
theorem wd_2_177 : Cond.code yX5_isOnLetter cX5_isOnLetter 1 (some .boolean) ∈ gw := tg_2 (List.mem_of_getElem? (i := 177) rfl) rfl
theorem wd_2_178 : Cond.fieldLinkNest RX9 63 "TurnShifts" "PIECES" "[LTurnShifts$Piece;" "TurnShifts" ∈ nestW := tn_2 (List.mem_of_getElem? (i := 178) rfl) rfl
theorem wd_2_180 : Cond.methodLinkNest RX9 73 yX5_reads "TurnShifts" ∈ nestW := tn_2 (List.mem_of_getElem? (i := 180) rfl) rfl
theorem wd_2_182 : Cond.instanceMethod yX5_reads ∈ gw := tg_2 (List.mem_of_getElem? (i := 182) rfl) rfl
theorem wd_2_183 : Cond.code yX5_reads cX5_reads 4 (some .boolean) ∈ gw := tg_2 (List.mem_of_getElem? (i := 183) rfl) rfl
theorem wd_2_184 : Cond.methodLink RX5 37 yJ0_length_8abf5 ∈ gw := tg_2 (List.mem_of_getElem? (i := 184) rfl) rfl
theorem wd_2_185 : Cond.instanceMethod yJ0_length_8abf5 ∈ gw := tg_2 (List.mem_of_getElem? (i := 185) rfl) rfl
theorem wd_2_186 : Cond.selects RJ0 yJ0_length_8abf5 yJ0_length_8abf5 ∈ gw := tg_2 (List.mem_of_getElem? (i := 186) rfl) rfl
theorem wd_2_187 : Cond.code yJ0_length_8abf5 cJ0_length_8abf5 1 (some .int) ∈ gw := tg_2 (List.mem_of_getElem? (i := 187) rfl) rfl
theorem wd_2_188 : Cond.methodLink RJ0 335 yJ0_coder_7d493 ∈ gw := tg_2 (List.mem_of_getElem? (i := 188) rfl) rfl
theorem wd_2_189 : Cond.instanceMethod yJ0_coder_7d493 ∈ gw := tg_2 (List.mem_of_getElem? (i := 189) rfl) rfl
theorem wd_2_190 : Cond.selects RJ0 yJ0_coder_7d493 yJ0_coder_7d493 ∈ gw := tg_2 (List.mem_of_getElem? (i := 190) rfl) rfl
theorem wd_2_191 : Cond.code yJ0_coder_7d493 cJ0_coder_7d493 1 (some .byte) ∈ gw := tg_2 (List.mem_of_getElem? (i := 191) rfl) rfl
theorem wd_2_192 : Cond.fieldLink RJ0 38 "java/lang/String" "COMPACT_STRINGS" "Z" ∈ gw := tg_2 (List.mem_of_getElem? (i := 192) rfl) rfl
theorem wd_2_194 : Cond.methodLink RX5 41 yJ0_charAt_5068e ∈ gw := tg_2 (List.mem_of_getElem? (i := 194) rfl) rfl
theorem wd_2_195 : Cond.instanceMethod yJ0_charAt_5068e ∈ gw := tg_2 (List.mem_of_getElem? (i := 195) rfl) rfl
theorem wd_2_196 : Cond.selects RJ0 yJ0_charAt_5068e yJ0_charAt_5068e ∈ gw := tg_2 (List.mem_of_getElem? (i := 196) rfl) rfl
theorem wd_2_197 : Cond.code yJ0_charAt_5068e cJ0_charAt_5068e 2 (some .char) ∈ gw := tg_2 (List.mem_of_getElem? (i := 197) rfl) rfl
theorem wd_2_198 : Cond.methodLink RJ0 492 yJ0_isLatin1_aae02 ∈ gw := tg_2 (List.mem_of_getElem? (i := 198) rfl) rfl
theorem wd_2_199 : Cond.instanceMethod yJ0_isLatin1_aae02 ∈ gw := tg_2 (List.mem_of_getElem? (i := 199) rfl) rfl
theorem wd_2_200 : Cond.selects RJ0 yJ0_isLatin1_aae02 yJ0_isLatin1_aae02 ∈ gw := tg_2 (List.mem_of_getElem? (i := 200) rfl) rfl
theorem wd_2_201 : Cond.code yJ0_isLatin1_aae02 cJ0_isLatin1_aae02 1 (some .boolean) ∈ gw := tg_2 (List.mem_of_getElem? (i := 201) rfl) rfl
theorem wd_2_202 : Cond.methodLink RJ0 495 yJ1_charAt_3b067 ∈ gw := tg_2 (List.mem_of_getElem? (i := 202) rfl) rfl
theorem wd_2_203 : Cond.static yJ1_charAt_3b067 ∈ gw := tg_2 (List.mem_of_getElem? (i := 203) rfl) rfl
theorem wd_2_204 : Cond.code yJ1_charAt_3b067 cJ1_charAt_3b067 2 (some .char) ∈ gw := tg_2 (List.mem_of_getElem? (i := 204) rfl) rfl
theorem wd_2_205 : Cond.methodLink RJ1 9 yJ0_checkIndex_df160 ∈ gw := tg_2 (List.mem_of_getElem? (i := 205) rfl) rfl
theorem wd_2_206 : Cond.static yJ0_checkIndex_df160 ∈ gw := tg_2 (List.mem_of_getElem? (i := 206) rfl) rfl
theorem wd_2_207 : Cond.code yJ0_checkIndex_df160 cJ0_checkIndex_df160 2 none ∈ gw := tg_2 (List.mem_of_getElem? (i := 207) rfl) rfl
theorem wd_2_208 : Cond.fieldLink RJ0 1053 "jdk/internal/util/Preconditions" "SIOOBE_FORMATTER" "Ljava/util/function/BiFunction;" ∈ gw := tg_2 (List.mem_of_getElem? (i := 208) rfl) rfl
theorem wd_2_210 : Cond.methodLink RJ0 1059 yJ3_checkIndex_8e157 ∈ gw := tg_2 (List.mem_of_getElem? (i := 210) rfl) rfl
theorem wd_2_211 : Cond.static yJ3_checkIndex_8e157 ∈ gw := tg_2 (List.mem_of_getElem? (i := 211) rfl) rfl
theorem wd_2_212 : Cond.code yJ3_checkIndex_8e157 cJ3_checkIndex_8e157 3 (some .int) ∈ gw := tg_2 (List.mem_of_getElem? (i := 212) rfl) rfl
theorem wd_2_213 : Cond.methodLink RJ0 498 yJ2_charAt_3b067 ∈ gw := tg_2 (List.mem_of_getElem? (i := 213) rfl) rfl
theorem wd_2_214 : Cond.static yJ2_charAt_3b067 ∈ gw := tg_2 (List.mem_of_getElem? (i := 214) rfl) rfl
theorem wd_2_215 : Cond.code yJ2_charAt_3b067 cJ2_charAt_3b067 2 (some .char) ∈ gw := tg_2 (List.mem_of_getElem? (i := 215) rfl) rfl
theorem wd_2_216 : Cond.methodLink RJ2 67 yJ2_checkIndex_2214a ∈ gw := tg_2 (List.mem_of_getElem? (i := 216) rfl) rfl
theorem wd_2_217 : Cond.static yJ2_checkIndex_2214a ∈ gw := tg_2 (List.mem_of_getElem? (i := 217) rfl) rfl
theorem wd_2_218 : Cond.code yJ2_checkIndex_2214a cJ2_checkIndex_2214a 2 none ∈ gw := tg_2 (List.mem_of_getElem? (i := 218) rfl) rfl
theorem wd_2_219 : Cond.methodLink RJ2 48 yJ2_length_9d52b ∈ gw := tg_2 (List.mem_of_getElem? (i := 219) rfl) rfl
theorem wd_2_220 : Cond.static yJ2_length_9d52b ∈ gw := tg_2 (List.mem_of_getElem? (i := 220) rfl) rfl
theorem wd_2_221 : Cond.code yJ2_length_9d52b cJ2_length_9d52b 1 (some .int) ∈ gw := tg_2 (List.mem_of_getElem? (i := 221) rfl) rfl
theorem wd_2_222 : Cond.methodLink RJ2 414 yJ0_checkIndex_df160 ∈ gw := tg_2 (List.mem_of_getElem? (i := 222) rfl) rfl
theorem wd_2_223 : Cond.methodLink RJ2 71 yJ2_getChar_3b067 ∈ gw := tg_2 (List.mem_of_getElem? (i := 223) rfl) rfl
theorem wd_2_224 : Cond.static yJ2_getChar_3b067 ∈ gw := tg_2 (List.mem_of_getElem? (i := 224) rfl) rfl
theorem wd_2_225 : Cond.code yJ2_getChar_3b067 cJ2_getChar_3b067 2 (some .char) ∈ gw := tg_2 (List.mem_of_getElem? (i := 225) rfl) rfl
theorem wd_2_226 : Cond.fieldLink RJ2 44 "java/lang/StringUTF16" "$assertionsDisabled" "Z" ∈ gw := tg_2 (List.mem_of_getElem? (i := 226) rfl) rfl
theorem wd_2_228 : Cond.fieldLink RJ2 59 "java/lang/StringUTF16" "HI_BYTE_SHIFT" "I" ∈ gw := tg_2 (List.mem_of_getElem? (i := 228) rfl) rfl
theorem wd_2_230 : Cond.fieldLink RJ2 63 "java/lang/StringUTF16" "LO_BYTE_SHIFT" "I" ∈ gw := tg_2 (List.mem_of_getElem? (i := 230) rfl) rfl
theorem wd_2_232 : Cond.methodLink RX9 77 yX9_mayCome ∈ gw := tg_2 (List.mem_of_getElem? (i := 232) rfl) rfl
theorem wd_2_234 : Cond.instanceMethod yX9_mayCome ∈ gw := tg_2 (List.mem_of_getElem? (i := 234) rfl) rfl
theorem wd_2_235 : Cond.code yX9_mayCome cX9_mayCome 2 (some .boolean) ∈ gw := tg_2 (List.mem_of_getElem? (i := 235) rfl) rfl
theorem wd_2_236 : Cond.fieldLink RX9 102 "TurnShifts$1" "$SwitchMap$TurnShifts$Piece" "[I" ∈ gw := tg_2 (List.mem_of_getElem? (i := 236) rfl) rfl
theorem wd_2_238 : Cond.methodLink RX9 108 ⟨"TurnShifts$Piece", "ordinal", "()I"⟩ ∈ gw := tg_2 (List.mem_of_getElem? (i := 238) rfl) rfl
theorem wd_2_239 : Cond.sameMethod "TurnShifts$Piece" "java/lang/Enum" "ordinal" "()I" ∈ gw := tg_2 (List.mem_of_getElem? (i := 239) rfl) rfl
theorem wd_3_1 : Cond.selects RX4 ⟨"TurnShifts$Piece", "ordinal", "()I"⟩ yJx29ce0_ordinal_8abf5 ∈ gw := tg_3 (List.mem_of_getElem? (i := 1) rfl) rfl
theorem wd_3_2 : Cond.instanceMethod yJx29ce0_ordinal_8abf5 ∈ gw := tg_3 (List.mem_of_getElem? (i := 2) rfl) rfl
theorem wd_3_3 : Cond.code yJx29ce0_ordinal_8abf5 cJx29ce0_ordinal_8abf5 1 (some .int) ∈ gw := tg_3 (List.mem_of_getElem? (i := 3) rfl) rfl
theorem wd_3_4 : Cond.methodLink RX9 81 yX9_readRest ∈ gw := tg_3 (List.mem_of_getElem? (i := 4) rfl) rfl
theorem wd_3_6 : Cond.instanceMethod yX9_readRest ∈ gw := tg_3 (List.mem_of_getElem? (i := 6) rfl) rfl
theorem wd_3_7 : Cond.code yX9_readRest cX9_readRest 5 (some .int) ∈ gw := tg_3 (List.mem_of_getElem? (i := 7) rfl) rfl
theorem wd_3_8 : Cond.methodLink RX9 88 yX9_take ∈ gw := tg_3 (List.mem_of_getElem? (i := 8) rfl) rfl
theorem wd_3_10 : Cond.instanceMethod yX9_take ∈ gw := tg_3 (List.mem_of_getElem? (i := 10) rfl) rfl
theorem wd_3_11 : Cond.code yX9_take cX9_take 3 none ∈ gw := tg_3 (List.mem_of_getElem? (i := 11) rfl) rfl
theorem wd_3_12 : Cond.methodLinkNest RX9 92 yX5_passDigits "TurnShifts" ∈ nestW := tn_3 (List.mem_of_getElem? (i := 12) rfl) rfl
theorem wd_3_14 : Cond.instanceMethod yX5_passDigits ∈ gw := tg_3 (List.mem_of_getElem? (i := 14) rfl) rfl
theorem wd_3_15 : Cond.code yX5_passDigits cX5_passDigits 1 none ∈ gw := tg_3 (List.mem_of_getElem? (i := 15) rfl) rfl
theorem wd_3_16 : Cond.methodLink RX5 34 yX5_isOnDigit ∈ gw := tg_3 (List.mem_of_getElem? (i := 16) rfl) rfl
theorem wd_3_18 : Cond.instanceMethod yX5_isOnDigit ∈ gw := tg_3 (List.mem_of_getElem? (i := 18) rfl) rfl
theorem wd_3_19 : Cond.code yX5_isOnDigit cX5_isOnDigit 1 (some .boolean) ∈ gw := tg_3 (List.mem_of_getElem? (i := 19) rfl) rfl
theorem wd_3_20 : Cond.methodLinkNest RX9 95 yX5_number "TurnShifts" ∈ nestW := tn_3 (List.mem_of_getElem? (i := 20) rfl) rfl
theorem wd_3_22 : Cond.instanceMethod yX5_number ∈ gw := tg_3 (List.mem_of_getElem? (i := 22) rfl) rfl
theorem wd_3_23 : Cond.code yX5_number cX5_number 4 (some .int) ∈ gw := tg_3 (List.mem_of_getElem? (i := 23) rfl) rfl
theorem wd_3_24 : Cond.methodLinkNest RX9 30 yX5_isAtEnd "TurnShifts" ∈ nestW := tn_3 (List.mem_of_getElem? (i := 24) rfl) rfl
theorem wd_3_26 : Cond.instanceMethod yX5_isAtEnd ∈ gw := tg_3 (List.mem_of_getElem? (i := 26) rfl) rfl
theorem wd_3_27 : Cond.code yX5_isAtEnd cX5_isAtEnd 1 (some .boolean) ∈ gw := tg_3 (List.mem_of_getElem? (i := 27) rfl) rfl
theorem wd_3_28 : Cond.methodLinkNest RX9 41 yX5_here "TurnShifts" ∈ nestW := tn_3 (List.mem_of_getElem? (i := 28) rfl) rfl
theorem wd_3_29 : Cond.methodLinkNest RX10 90 yX3_read "TurnShifts" ∈ nestW := tn_3 (List.mem_of_getElem? (i := 29) rfl) rfl
theorem wd_3_31 : Cond.instanceMethod yX3_read ∈ gw := tg_3 (List.mem_of_getElem? (i := 31) rfl) rfl
theorem wd_3_32 : Cond.code yX3_read cX3_read 3 (some .int) ∈ gw := tg_3 (List.mem_of_getElem? (i := 32) rfl) rfl
theorem wd_3_33 : Cond.methodLink RX3 37 yX3_readLine ∈ gw := tg_3 (List.mem_of_getElem? (i := 33) rfl) rfl
theorem wd_3_35 : Cond.instanceMethod yX3_readLine ∈ gw := tg_3 (List.mem_of_getElem? (i := 35) rfl) rfl
theorem wd_3_36 : Cond.code yX3_readLine cX3_readLine 5 (some .int) ∈ gw := tg_3 (List.mem_of_getElem? (i := 36) rfl) rfl
theorem wd_3_37 : Cond.methodLinkNest RX3 41 yX5_skipBlanks "TurnShifts" ∈ nestW := tn_3 (List.mem_of_getElem? (i := 37) rfl) rfl
theorem wd_3_38 : Cond.methodLinkNest RX3 52 yX5_passLetters "TurnShifts" ∈ nestW := tn_3 (List.mem_of_getElem? (i := 38) rfl) rfl
theorem wd_3_39 : Cond.fieldLinkNest RX3 55 "TurnShifts" "KINDS" "[LTurnShifts$Kind;" "TurnShifts" ∈ nestW := tn_3 (List.mem_of_getElem? (i := 39) rfl) rfl
theorem wd_3_41 : Cond.methodLinkNest RX3 65 yX5_reads "TurnShifts" ∈ nestW := tn_3 (List.mem_of_getElem? (i := 41) rfl) rfl
theorem wd_3_42 : Cond.methodLink RX3 72 yX3_readOperands ∈ gw := tg_3 (List.mem_of_getElem? (i := 42) rfl) rfl
theorem wd_3_44 : Cond.instanceMethod yX3_readOperands ∈ gw := tg_3 (List.mem_of_getElem? (i := 44) rfl) rfl
theorem wd_3_45 : Cond.code yX3_readOperands cX3_readOperands 5 (some .int) ∈ gw := tg_3 (List.mem_of_getElem? (i := 45) rfl) rfl
theorem wd_3_46 : Cond.methodLinkNest RX3 48 yX5_here "TurnShifts" ∈ nestW := tn_3 (List.mem_of_getElem? (i := 46) rfl) rfl
theorem wd_3_47 : Cond.methodLink RX3 76 yX3_readTie ∈ gw := tg_3 (List.mem_of_getElem? (i := 47) rfl) rfl
theorem wd_3_49 : Cond.instanceMethod yX3_readTie ∈ gw := tg_3 (List.mem_of_getElem? (i := 49) rfl) rfl
theorem wd_3_50 : Cond.code yX3_readTie cX3_readTie 6 (some .int) ∈ gw := tg_3 (List.mem_of_getElem? (i := 50) rfl) rfl
theorem wd_3_51 : Cond.methodLinkNest RX3 82 yX5_passDigits "TurnShifts" ∈ nestW := tn_3 (List.mem_of_getElem? (i := 51) rfl) rfl
theorem wd_3_52 : Cond.methodLinkNest RX3 85 yX5_number "TurnShifts" ∈ nestW := tn_3 (List.mem_of_getElem? (i := 52) rfl) rfl
theorem wd_3_53 : Cond.methodLink RX3 79 yX3_readNumber ∈ gw := tg_3 (List.mem_of_getElem? (i := 53) rfl) rfl
theorem wd_3_55 : Cond.instanceMethod yX3_readNumber ∈ gw := tg_3 (List.mem_of_getElem? (i := 55) rfl) rfl
theorem wd_3_56 : Cond.code yX3_readNumber cX3_readNumber 6 (some .int) ∈ gw := tg_3 (List.mem_of_getElem? (i := 56) rfl) rfl
theorem wd_3_57 : Cond.methodLinkNest RX3 44 yX5_isAtEnd "TurnShifts" ∈ nestW := tn_3 (List.mem_of_getElem? (i := 57) rfl) rfl
theorem wd_3_58 : Cond.methodLink RL 34 yX10_unit ∈ gw := tg_3 (List.mem_of_getElem? (i := 58) rfl) rfl
theorem wd_3_59 : Cond.instanceMethod yX10_unit ∈ gw := tg_3 (List.mem_of_getElem? (i := 59) rfl) rfl
theorem wd_3_60 : Cond.selects RX10 yX10_unit yX10_unit ∈ gw := tg_3 (List.mem_of_getElem? (i := 60) rfl) rfl
theorem wd_3_61 : Cond.code yX10_unit cX10_unit 1 (some .int) ∈ gw := tg_3 (List.mem_of_getElem? (i := 61) rfl) rfl
theorem wd_3_62 : Cond.methodLinkNest RX10 94 yX9_guardOrUsual "TurnShifts" ∈ nestW := tn_3 (List.mem_of_getElem? (i := 62) rfl) rfl
theorem wd_3_64 : Cond.instanceMethod yX9_guardOrUsual ∈ gw := tg_3 (List.mem_of_getElem? (i := 64) rfl) rfl
theorem wd_3_65 : Cond.code yX9_guardOrUsual cX9_guardOrUsual 1 (some .int) ∈ gw := tg_3 (List.mem_of_getElem? (i := 65) rfl) rfl
theorem wd_3_66 : Cond.methodLinkNest RX10 100 yX9_placesOrStages "TurnShifts" ∈ nestW := tn_3 (List.mem_of_getElem? (i := 66) rfl) rfl
theorem wd_3_68 : Cond.instanceMethod yX9_placesOrStages ∈ gw := tg_3 (List.mem_of_getElem? (i := 68) rfl) rfl
theorem wd_3_69 : Cond.code yX9_placesOrStages cX9_placesOrStages 1 (some .int) ∈ gw := tg_3 (List.mem_of_getElem? (i := 69) rfl) rfl
theorem wd_3_70 : Cond.methodLinkNest RX10 107 yX1_clear "TurnShifts" ∈ nestW := tn_3 (List.mem_of_getElem? (i := 70) rfl) rfl
theorem wd_3_72 : Cond.instanceMethod yX1_clear ∈ gw := tg_3 (List.mem_of_getElem? (i := 72) rfl) rfl
theorem wd_3_73 : Cond.code yX1_clear cX1_clear 1 none ∈ gw := tg_3 (List.mem_of_getElem? (i := 73) rfl) rfl
theorem wd_3_74 : Cond.methodLink RL 39 yX10_rule ∈ gw := tg_3 (List.mem_of_getElem? (i := 74) rfl) rfl
theorem wd_3_75 : Cond.instanceMethod yX10_rule ∈ gw := tg_3 (List.mem_of_getElem? (i := 75) rfl) rfl
theorem wd_3_76 : Cond.selects RX10 yX10_rule yX10_rule ∈ gw := tg_3 (List.mem_of_getElem? (i := 76) rfl) rfl
theorem wd_3_77 : Cond.code yX10_rule cX10_rule 2 (some .int) ∈ gw := tg_3 (List.mem_of_getElem? (i := 77) rfl) rfl
theorem wd_3_78 : Cond.methodLinkNest RX10 131 yX1_howMany "TurnShifts" ∈ nestW := tn_3 (List.mem_of_getElem? (i := 78) rfl) rfl
theorem wd_3_80 : Cond.instanceMethod yX1_howMany ∈ gw := tg_3 (List.mem_of_getElem? (i := 80) rfl) rfl
theorem wd_3_81 : Cond.code yX1_howMany cX1_howMany 4 (some .int) ∈ gw := tg_3 (List.mem_of_getElem? (i := 81) rfl) rfl
theorem wd_3_82 : Cond.methodLink RL 43 yX10_constant ∈ gw := tg_3 (List.mem_of_getElem? (i := 82) rfl) rfl
theorem wd_3_83 : Cond.instanceMethod yX10_constant ∈ gw := tg_3 (List.mem_of_getElem? (i := 83) rfl) rfl
theorem wd_3_84 : Cond.selects RX10 yX10_constant yX10_constant ∈ gw := tg_3 (List.mem_of_getElem? (i := 84) rfl) rfl
theorem wd_3_85 : Cond.code yX10_constant cX10_constant 2 (some .int) ∈ gw := tg_3 (List.mem_of_getElem? (i := 85) rfl) rfl
theorem wd_3_86 : Cond.methodLink RL 47 yX10_stage ∈ gw := tg_3 (List.mem_of_getElem? (i := 86) rfl) rfl
theorem wd_3_87 : Cond.instanceMethod yX10_stage ∈ gw := tg_3 (List.mem_of_getElem? (i := 87) rfl) rfl
theorem wd_3_88 : Cond.selects RX10 yX10_stage yX10_stage ∈ gw := tg_3 (List.mem_of_getElem? (i := 88) rfl) rfl
theorem wd_3_89 : Cond.code yX10_stage cX10_stage 5 (some .int) ∈ gw := tg_3 (List.mem_of_getElem? (i := 89) rfl) rfl
theorem wd_3_90 : Cond.methodLink RX10 147 yX10_isMode ∈ gw := tg_3 (List.mem_of_getElem? (i := 90) rfl) rfl
theorem wd_3_92 : Cond.instanceMethod yX10_isMode ∈ gw := tg_3 (List.mem_of_getElem? (i := 92) rfl) rfl
theorem wd_3_93 : Cond.code yX10_isMode cX10_isMode 2 (some .boolean) ∈ gw := tg_3 (List.mem_of_getElem? (i := 93) rfl) rfl
theorem wd_3_94 : Cond.methodLinkNest RX10 158 yX8_needsWord "TurnShifts" ∈ nestW := tn_3 (List.mem_of_getElem? (i := 94) rfl) rfl
theorem wd_3_96 : Cond.instanceMethod yX8_needsWord ∈ gw := tg_3 (List.mem_of_getElem? (i := 96) rfl) rfl
theorem wd_3_97 : Cond.code yX8_needsWord cX8_needsWord 4 (some .boolean) ∈ gw := tg_3 (List.mem_of_getElem? (i := 97) rfl) rfl
theorem wd_3_98 : Cond.methodLink RL 52 yX10_mode ∈ gw := tg_3 (List.mem_of_getElem? (i := 98) rfl) rfl
theorem wd_3_99 : Cond.instanceMethod yX10_mode ∈ gw := tg_3 (List.mem_of_getElem? (i := 99) rfl) rfl
theorem wd_3_100 : Cond.selects RX10 yX10_mode yX10_mode ∈ gw := tg_3 (List.mem_of_getElem? (i := 100) rfl) rfl
theorem wd_3_101 : Cond.code yX10_mode cX10_mode 3 (some .int) ∈ gw := tg_3 (List.mem_of_getElem? (i := 101) rfl) rfl
theorem wd_3_102 : Cond.methodLinkNest RX10 168 yX8_digitsUsed "TurnShifts" ∈ nestW := tn_3 (List.mem_of_getElem? (i := 102) rfl) rfl
theorem wd_3_104 : Cond.instanceMethod yX8_digitsUsed ∈ gw := tg_3 (List.mem_of_getElem? (i := 104) rfl) rfl
theorem wd_3_105 : Cond.code yX8_digitsUsed cX8_digitsUsed 4 (some .int) ∈ gw := tg_3 (List.mem_of_getElem? (i := 105) rfl) rfl
theorem wd_3_106 : Cond.methodLinkNest RX10 171 yX8_words "TurnShifts" ∈ nestW := tn_3 (List.mem_of_getElem? (i := 106) rfl) rfl
theorem wd_3_108 : Cond.instanceMethod yX8_words ∈ gw := tg_3 (List.mem_of_getElem? (i := 108) rfl) rfl
theorem wd_3_109 : Cond.code yX8_words cX8_words 4 (some .int) ∈ gw := tg_3 (List.mem_of_getElem? (i := 109) rfl) rfl
theorem wd_3_110 : Cond.methodLink RX8 103 yX8_needsWord ∈ gw := tg_3 (List.mem_of_getElem? (i := 110) rfl) rfl
theorem wd_3_111 : Cond.methodLink RX8 107 yX8_hasWordBefore ∈ gw := tg_3 (List.mem_of_getElem? (i := 111) rfl) rfl
theorem wd_3_113 : Cond.instanceMethod yX8_hasWordBefore ∈ gw := tg_3 (List.mem_of_getElem? (i := 113) rfl) rfl
theorem wd_3_114 : Cond.code yX8_hasWordBefore cX8_hasWordBefore 5 (some .boolean) ∈ gw := tg_3 (List.mem_of_getElem? (i := 114) rfl) rfl
theorem wd_3_115 : Cond.methodLinkNest RX10 174 yX8_firstWithoutWords "TurnShifts" ∈ nestW := tn_3 (List.mem_of_getElem? (i := 115) rfl) rfl
theorem wd_3_117 : Cond.instanceMethod yX8_firstWithoutWords ∈ gw := tg_3 (List.mem_of_getElem? (i := 117) rfl) rfl
theorem wd_3_118 : Cond.code yX8_firstWithoutWords cX8_firstWithoutWords 3 (some .int) ∈ gw := tg_3 (List.mem_of_getElem? (i := 118) rfl) rfl
theorem wd_3_119 : Cond.methodLink RL 56 yX10_digit ∈ gw := tg_3 (List.mem_of_getElem? (i := 119) rfl) rfl
theorem wd_3_120 : Cond.instanceMethod yX10_digit ∈ gw := tg_3 (List.mem_of_getElem? (i := 120) rfl) rfl
theorem wd_3_121 : Cond.selects RX10 yX10_digit yX10_digit ∈ gw := tg_3 (List.mem_of_getElem? (i := 121) rfl) rfl
theorem wd_3_122 : Cond.code yX10_digit cX10_digit 3 (some .int) ∈ gw := tg_3 (List.mem_of_getElem? (i := 122) rfl) rfl
theorem wd_3_123 : Cond.constant RX10 177 (-2147483648) ∈ gw := tg_3 (List.mem_of_getElem? (i := 123) rfl) rfl
theorem wd_3_124 : Cond.methodLink RL 60 yX10_takenOut ∈ gw := tg_3 (List.mem_of_getElem? (i := 124) rfl) rfl
theorem wd_3_125 : Cond.instanceMethod yX10_takenOut ∈ gw := tg_3 (List.mem_of_getElem? (i := 125) rfl) rfl
theorem wd_3_126 : Cond.selects RX10 yX10_takenOut yX10_takenOut ∈ gw := tg_3 (List.mem_of_getElem? (i := 126) rfl) rfl
theorem wd_3_127 : Cond.code yX10_takenOut cX10_takenOut 4 (some .int) ∈ gw := tg_3 (List.mem_of_getElem? (i := 127) rfl) rfl
theorem wd_3_128 : Cond.constant RX10 181 536870912 ∈ gw := tg_3 (List.mem_of_getElem? (i := 128) rfl) rfl
theorem wd_3_129 : Cond.methodLinkNest RX10 182 yX8_withoutGain "TurnShifts" ∈ nestW := tn_3 (List.mem_of_getElem? (i := 129) rfl) rfl
theorem wd_3_131 : Cond.instanceMethod yX8_withoutGain ∈ gw := tg_3 (List.mem_of_getElem? (i := 131) rfl) rfl
theorem wd_3_132 : Cond.code yX8_withoutGain cX8_withoutGain 8 (some .long) ∈ gw := tg_3 (List.mem_of_getElem? (i := 132) rfl) rfl
theorem wd_3_133 : Cond.methodLink RX8 110 yX8_shifted ∈ gw := tg_3 (List.mem_of_getElem? (i := 133) rfl) rfl
theorem wd_3_135 : Cond.instanceMethod yX8_shifted ∈ gw := tg_3 (List.mem_of_getElem? (i := 135) rfl) rfl
theorem wd_3_136 : Cond.code yX8_shifted cX8_shifted 4 (some .long) ∈ gw := tg_3 (List.mem_of_getElem? (i := 136) rfl) rfl
theorem wd_3_137 : Cond.methodLink RL 64 yX10_value ∈ gw := tg_3 (List.mem_of_getElem? (i := 137) rfl) rfl
theorem wd_3_138 : Cond.instanceMethod yX10_value ∈ gw := tg_3 (List.mem_of_getElem? (i := 138) rfl) rfl
theorem wd_3_139 : Cond.selects RX10 yX10_value yX10_value ∈ gw := tg_3 (List.mem_of_getElem? (i := 139) rfl) rfl
theorem wd_3_140 : Cond.code yX10_value cX10_value 6 (some .int) ∈ gw := tg_3 (List.mem_of_getElem? (i := 140) rfl) rfl
theorem wd_3_141 : Cond.methodLink RX10 186 yX10_isKind ∈ gw := tg_3 (List.mem_of_getElem? (i := 141) rfl) rfl
theorem wd_3_143 : Cond.instanceMethod yX10_isKind ∈ gw := tg_3 (List.mem_of_getElem? (i := 143) rfl) rfl
theorem wd_3_144 : Cond.code yX10_isKind cX10_isKind 2 (some .boolean) ∈ gw := tg_3 (List.mem_of_getElem? (i := 144) rfl) rfl
theorem wd_3_145 : Cond.fieldLink RX10 332 "TurnShifts" "KINDS" "[LTurnShifts$Kind;" ∈ gw := tg_3 (List.mem_of_getElem? (i := 145) rfl) rfl
theorem wd_3_146 : Cond.methodLink RX10 189 yX10_isEither ∈ gw := tg_3 (List.mem_of_getElem? (i := 146) rfl) rfl
theorem wd_3_147 : Cond.static yX10_isEither ∈ gw := tg_3 (List.mem_of_getElem? (i := 147) rfl) rfl
theorem wd_3_148 : Cond.code yX10_isEither cX10_isEither 1 (some .boolean) ∈ gw := tg_3 (List.mem_of_getElem? (i := 148) rfl) rfl
theorem wd_3_149 : Cond.methodLinkNest RX10 192 yX7_solve "TurnShifts" ∈ nestW := tn_3 (List.mem_of_getElem? (i := 149) rfl) rfl
theorem wd_3_151 : Cond.instanceMethod yX7_solve ∈ gw := tg_3 (List.mem_of_getElem? (i := 151) rfl) rfl
theorem wd_3_152 : Cond.code yX7_solve cX7_solve 8 (some .boolean) ∈ gw := tg_3 (List.mem_of_getElem? (i := 152) rfl) rfl
theorem wd_3_153 : Cond.methodLink RX7 15 yX7_fits ∈ gw := tg_3 (List.mem_of_getElem? (i := 153) rfl) rfl
theorem wd_3_155 : Cond.instanceMethod yX7_fits ∈ gw := tg_3 (List.mem_of_getElem? (i := 155) rfl) rfl
theorem wd_3_156 : Cond.code yX7_fits cX7_fits 8 (some .boolean) ∈ gw := tg_3 (List.mem_of_getElem? (i := 156) rfl) rfl
theorem wd_3_157 : Cond.fieldLink RX7 44 "TurnShifts$1" "$SwitchMap$TurnShifts$Kind" "[I" ∈ gw := tg_3 (List.mem_of_getElem? (i := 157) rfl) rfl
theorem wd_3_159 : Cond.fieldLinkNest RX7 50 "TurnShifts" "KINDS" "[LTurnShifts$Kind;" "TurnShifts" ∈ nestW := tn_3 (List.mem_of_getElem? (i := 159) rfl) rfl
theorem wd_3_160 : Cond.methodLink RX7 54 ⟨"TurnShifts$Kind", "ordinal", "()I"⟩ ∈ gw := tg_3 (List.mem_of_getElem? (i := 160) rfl) rfl
theorem wd_3_161 : Cond.sameMethod "TurnShifts$Kind" "java/lang/Enum" "ordinal" "()I" ∈ gw := tg_3 (List.mem_of_getElem? (i := 161) rfl) rfl
theorem wd_3_162 : Cond.selects RX2 ⟨"TurnShifts$Kind", "ordinal", "()I"⟩ yJx29ce0_ordinal_8abf5 ∈ gw := tg_3 (List.mem_of_getElem? (i := 162) rfl) rfl
theorem wd_3_163 : Cond.methodLink RX7 60 yX7_isTo ∈ gw := tg_3 (List.mem_of_getElem? (i := 163) rfl) rfl
theorem wd_3_165 : Cond.instanceMethod yX7_isTo ∈ gw := tg_3 (List.mem_of_getElem? (i := 165) rfl) rfl
theorem wd_3_166 : Cond.code yX7_isTo cX7_isTo 6 (some .boolean) ∈ gw := tg_3 (List.mem_of_getElem? (i := 166) rfl) rfl
theorem wd_3_167 : Cond.methodLink RX7 64 yX7_stepsOver ∈ gw := tg_3 (List.mem_of_getElem? (i := 167) rfl) rfl
theorem wd_3_168 : Cond.static yX7_stepsOver ∈ gw := tg_3 (List.mem_of_getElem? (i := 168) rfl) rfl
theorem wd_3_169 : Cond.code yX7_stepsOver cX7_stepsOver 5 (some .int) ∈ gw := tg_3 (List.mem_of_getElem? (i := 169) rfl) rfl
theorem wd_3_170 : Cond.methodLink RX7 71 yJ9_abs_067f4 ∈ gw := tg_3 (List.mem_of_getElem? (i := 170) rfl) rfl
theorem wd_3_171 : Cond.static yJ9_abs_067f4 ∈ gw := tg_3 (List.mem_of_getElem? (i := 171) rfl) rfl
theorem wd_3_172 : Cond.code yJ9_abs_067f4 cJ9_abs_067f4 2 (some .long) ∈ gw := tg_3 (List.mem_of_getElem? (i := 172) rfl) rfl
theorem wd_3_173 : Cond.methodLink RX7 19 yX7_begin ∈ gw := tg_3 (List.mem_of_getElem? (i := 173) rfl) rfl
theorem wd_3_175 : Cond.instanceMethod yX7_begin ∈ gw := tg_3 (List.mem_of_getElem? (i := 175) rfl) rfl
theorem wd_3_176 : Cond.code yX7_begin cX7_begin 14 none ∈ gw := tg_3 (List.mem_of_getElem? (i := 176) rfl) rfl
theorem wd_3_177 : Cond.methodLink RX7 96 yX7_beginNear ∈ gw := tg_3 (List.mem_of_getElem? (i := 177) rfl) rfl
theorem wd_3_179 : Cond.instanceMethod yX7_beginNear ∈ gw := tg_3 (List.mem_of_getElem? (i := 179) rfl) rfl
theorem wd_3_180 : Cond.code yX7_beginNear cX7_beginNear 7 none ∈ gw := tg_3 (List.mem_of_getElem? (i := 180) rfl) rfl
theorem wd_3_181 : Cond.methodLink RX7 139 yX7_nearest ∈ gw := tg_3 (List.mem_of_getElem? (i := 181) rfl) rfl
theorem wd_3_182 : Cond.static yX7_nearest ∈ gw := tg_3 (List.mem_of_getElem? (i := 182) rfl) rfl
theorem wd_3_183 : Cond.code yX7_nearest cX7_nearest 4 (some .int) ∈ gw := tg_3 (List.mem_of_getElem? (i := 183) rfl) rfl
theorem wd_3_184 : Cond.constantLong RX7 142 2 ∈ gw := tg_3 (List.mem_of_getElem? (i := 184) rfl) rfl
theorem wd_3_185 : Cond.methodLink RX7 152 yJ9_floorDiv_f86c9 ∈ gw := tg_3 (List.mem_of_getElem? (i := 185) rfl) rfl
theorem wd_3_186 : Cond.static yJ9_floorDiv_f86c9 ∈ gw := tg_3 (List.mem_of_getElem? (i := 186) rfl) rfl
theorem wd_3_187 : Cond.code yJ9_floorDiv_f86c9 cJ9_floorDiv_f86c9 6 (some .long) ∈ gw := tg_3 (List.mem_of_getElem? (i := 187) rfl) rfl
theorem wd_3_188 : Cond.methodLink RX7 110 yX7_put ∈ gw := tg_3 (List.mem_of_getElem? (i := 188) rfl) rfl
theorem wd_3_190 : Cond.instanceMethod yX7_put ∈ gw := tg_3 (List.mem_of_getElem? (i := 190) rfl) rfl
theorem wd_3_191 : Cond.code yX7_put cX7_put 7 none ∈ gw := tg_3 (List.mem_of_getElem? (i := 191) rfl) rfl
theorem wd_3_192 : Cond.methodLink RX7 100 yX7_beginPolar ∈ gw := tg_3 (List.mem_of_getElem? (i := 192) rfl) rfl
theorem wd_3_194 : Cond.instanceMethod yX7_beginPolar ∈ gw := tg_3 (List.mem_of_getElem? (i := 194) rfl) rfl
theorem wd_3_195 : Cond.code yX7_beginPolar cX7_beginPolar 5 none ∈ gw := tg_3 (List.mem_of_getElem? (i := 195) rfl) rfl
theorem wd_3_196 : Cond.constantLong RX7 144 (-2) ∈ gw := tg_3 (List.mem_of_getElem? (i := 196) rfl) rfl
theorem wd_3_197 : Cond.methodLink RX7 104 yX7_beginTimes ∈ gw := tg_3 (List.mem_of_getElem? (i := 197) rfl) rfl
theorem wd_3_199 : Cond.instanceMethod yX7_beginTimes ∈ gw := tg_3 (List.mem_of_getElem? (i := 199) rfl) rfl
theorem wd_3_200 : Cond.code yX7_beginTimes cX7_beginTimes 5 none ∈ gw := tg_3 (List.mem_of_getElem? (i := 200) rfl) rfl
theorem wd_3_201 : Cond.methodLinkNest RX7 146 yX8_shifted "TurnShifts" ∈ nestW := tn_3 (List.mem_of_getElem? (i := 201) rfl) rfl
theorem wd_3_202 : Cond.methodLink RX7 107 yX7_beginOver ∈ gw := tg_3 (List.mem_of_getElem? (i := 202) rfl) rfl
theorem wd_3_204 : Cond.instanceMethod yX7_beginOver ∈ gw := tg_3 (List.mem_of_getElem? (i := 204) rfl) rfl
theorem wd_3_205 : Cond.code yX7_beginOver cX7_beginOver 5 none ∈ gw := tg_3 (List.mem_of_getElem? (i := 205) rfl) rfl
theorem wd_3_206 : Cond.methodLink RX7 116 yX7_powerOf ∈ gw := tg_3 (List.mem_of_getElem? (i := 206) rfl) rfl
theorem wd_3_207 : Cond.static yX7_powerOf ∈ gw := tg_3 (List.mem_of_getElem? (i := 207) rfl) rfl
theorem wd_3_208 : Cond.code yX7_powerOf cX7_powerOf 2 (some .int) ∈ gw := tg_3 (List.mem_of_getElem? (i := 208) rfl) rfl
theorem wd_3_209 : Cond.methodLink RX7 156 yJ13_numberOfLeadingZeros_95d88 ∈ gw := tg_3 (List.mem_of_getElem? (i := 209) rfl) rfl
theorem wd_3_210 : Cond.static yJ13_numberOfLeadingZeros_95d88 ∈ gw := tg_3 (List.mem_of_getElem? (i := 210) rfl) rfl
theorem wd_3_211 : Cond.code yJ13_numberOfLeadingZeros_95d88 cJ13_numberOfLeadingZeros_95d88 3 (some .int) ∈ gw := tg_3 (List.mem_of_getElem? (i := 211) rfl) rfl
theorem wd_3_212 : Cond.methodLink RJ13 308 yJ6_numberOfLeadingZeros_0f7a4 ∈ gw := tg_3 (List.mem_of_getElem? (i := 212) rfl) rfl
theorem wd_3_213 : Cond.static yJ6_numberOfLeadingZeros_0f7a4 ∈ gw := tg_3 (List.mem_of_getElem? (i := 213) rfl) rfl
theorem wd_3_214 : Cond.code yJ6_numberOfLeadingZeros_0f7a4 cJ6_numberOfLeadingZeros_0f7a4 2 (some .int) ∈ gw := tg_3 (List.mem_of_getElem? (i := 214) rfl) rfl
theorem wd_3_215 : Cond.constant RJ6 264 65536 ∈ gw := tg_3 (List.mem_of_getElem? (i := 215) rfl) rfl
theorem wd_3_216 : Cond.methodLinkNest RX7 120 yX8_scaled "TurnShifts" ∈ nestW := tn_3 (List.mem_of_getElem? (i := 216) rfl) rfl
theorem wd_3_218 : Cond.instanceMethod yX8_scaled ∈ gw := tg_3 (List.mem_of_getElem? (i := 218) rfl) rfl
theorem wd_3_219 : Cond.code yX8_scaled cX8_scaled 4 (some .long) ∈ gw := tg_3 (List.mem_of_getElem? (i := 219) rfl) rfl
theorem wd_3_220 : Cond.methodLink RX7 124 yX7_beginApart ∈ gw := tg_3 (List.mem_of_getElem? (i := 220) rfl) rfl
theorem wd_3_222 : Cond.instanceMethod yX7_beginApart ∈ gw := tg_3 (List.mem_of_getElem? (i := 222) rfl) rfl
theorem wd_3_223 : Cond.code yX7_beginApart cX7_beginApart 5 none ∈ gw := tg_3 (List.mem_of_getElem? (i := 223) rfl) rfl
theorem wd_3_224 : Cond.methodLink RX7 127 yX7_beginTurn ∈ gw := tg_3 (List.mem_of_getElem? (i := 224) rfl) rfl
theorem wd_3_226 : Cond.instanceMethod yX7_beginTurn ∈ gw := tg_3 (List.mem_of_getElem? (i := 226) rfl) rfl
theorem wd_3_227 : Cond.code yX7_beginTurn cX7_beginTurn 7 none ∈ gw := tg_3 (List.mem_of_getElem? (i := 227) rfl) rfl
theorem wd_3_228 : Cond.methodLink RX7 149 yX7_turnQuarters ∈ gw := tg_3 (List.mem_of_getElem? (i := 228) rfl) rfl
theorem wd_3_230 : Cond.instanceMethod yX7_turnQuarters ∈ gw := tg_3 (List.mem_of_getElem? (i := 230) rfl) rfl
theorem wd_3_231 : Cond.code yX7_turnQuarters cX7_turnQuarters 5 none ∈ gw := tg_3 (List.mem_of_getElem? (i := 231) rfl) rfl
theorem wd_3_232 : Cond.methodLink RX7 161 yX7_answers ∈ gw := tg_3 (List.mem_of_getElem? (i := 232) rfl) rfl
theorem wd_3_234 : Cond.instanceMethod yX7_answers ∈ gw := tg_3 (List.mem_of_getElem? (i := 234) rfl) rfl
theorem wd_3_235 : Cond.code yX7_answers cX7_answers 5 none ∈ gw := tg_3 (List.mem_of_getElem? (i := 235) rfl) rfl
theorem wd_3_236 : Cond.methodLink RX7 29 yX7_goThrough ∈ gw := tg_3 (List.mem_of_getElem? (i := 236) rfl) rfl
theorem wd_3_238 : Cond.instanceMethod yX7_goThrough ∈ gw := tg_3 (List.mem_of_getElem? (i := 238) rfl) rfl
theorem wd_3_239 : Cond.code yX7_goThrough cX7_goThrough 12 none ∈ gw := tg_3 (List.mem_of_getElem? (i := 239) rfl) rfl
theorem wd_4_0 : Cond.methodLink RX7 33 yX7_finish ∈ gw := tg_4 (List.mem_of_getElem? (i := 0) rfl) rfl
theorem wd_4_2 : Cond.instanceMethod yX7_finish ∈ gw := tg_4 (List.mem_of_getElem? (i := 2) rfl) rfl
theorem wd_4_3 : Cond.code yX7_finish cX7_finish 2 none ∈ gw := tg_4 (List.mem_of_getElem? (i := 3) rfl) rfl
theorem wd_4_4 : Cond.methodLinkNest RX7 177 yX8_withoutGain "TurnShifts" ∈ nestW := tn_4 (List.mem_of_getElem? (i := 4) rfl) rfl
theorem wd_4_5 : Cond.methodLinkNest RX7 181 yX8_outward "TurnShifts" ∈ nestW := tn_4 (List.mem_of_getElem? (i := 5) rfl) rfl
theorem wd_4_7 : Cond.instanceMethod yX8_outward ∈ gw := tg_4 (List.mem_of_getElem? (i := 7) rfl) rfl
theorem wd_4_8 : Cond.code yX8_outward cX8_outward 3 (some .long) ∈ gw := tg_4 (List.mem_of_getElem? (i := 8) rfl) rfl
theorem wd_4_9 : Cond.methodLinkNest RX10 196 yX7_answer "TurnShifts" ∈ nestW := tn_4 (List.mem_of_getElem? (i := 9) rfl) rfl
theorem wd_4_11 : Cond.instanceMethod yX7_answer ∈ gw := tg_4 (List.mem_of_getElem? (i := 11) rfl) rfl
theorem wd_4_12 : Cond.code yX7_answer cX7_answer 2 (some .long) ∈ gw := tg_4 (List.mem_of_getElem? (i := 12) rfl) rfl
theorem wd_4_13 : Cond.methodLink RL 68 yX10_off ∈ gw := tg_4 (List.mem_of_getElem? (i := 13) rfl) rfl
theorem wd_4_14 : Cond.instanceMethod yX10_off ∈ gw := tg_4 (List.mem_of_getElem? (i := 14) rfl) rfl
theorem wd_4_15 : Cond.selects RX10 yX10_off yX10_off ∈ gw := tg_4 (List.mem_of_getElem? (i := 15) rfl) rfl
theorem wd_4_16 : Cond.code yX10_off cX10_off 2 (some .int) ∈ gw := tg_4 (List.mem_of_getElem? (i := 16) rfl) rfl
theorem wd_4_17 : Cond.methodLink RX10 200 yX10_isBounded ∈ gw := tg_4 (List.mem_of_getElem? (i := 17) rfl) rfl
theorem wd_4_19 : Cond.instanceMethod yX10_isBounded ∈ gw := tg_4 (List.mem_of_getElem? (i := 19) rfl) rfl
theorem wd_4_20 : Cond.code yX10_isBounded cX10_isBounded 2 (some .boolean) ∈ gw := tg_4 (List.mem_of_getElem? (i := 20) rfl) rfl
theorem wd_4_21 : Cond.methodLinkNest RX10 203 yX8_farthest "TurnShifts" ∈ nestW := tn_4 (List.mem_of_getElem? (i := 21) rfl) rfl
theorem wd_4_23 : Cond.instanceMethod yX8_farthest ∈ gw := tg_4 (List.mem_of_getElem? (i := 23) rfl) rfl
theorem wd_4_24 : Cond.code yX8_farthest cX8_farthest 7 (some .long) ∈ gw := tg_4 (List.mem_of_getElem? (i := 24) rfl) rfl
theorem wd_4_25 : Cond.fieldLinkNest RX8 114 "TurnShifts" "KINDS" "[LTurnShifts$Kind;" "TurnShifts" ∈ nestW := tn_4 (List.mem_of_getElem? (i := 25) rfl) rfl
theorem wd_4_26 : Cond.constantLong RX8 123 32 ∈ gw := tg_4 (List.mem_of_getElem? (i := 26) rfl) rfl
theorem wd_4_27 : Cond.methodLink RL 72 yX10_job ∈ gw := tg_4 (List.mem_of_getElem? (i := 27) rfl) rfl
theorem wd_4_28 : Cond.instanceMethod yX10_job ∈ gw := tg_4 (List.mem_of_getElem? (i := 28) rfl) rfl
theorem wd_4_29 : Cond.selects RX10 yX10_job yX10_job ∈ gw := tg_4 (List.mem_of_getElem? (i := 29) rfl) rfl
theorem wd_4_30 : Cond.code yX10_job cX10_job 5 (some .int) ∈ gw := tg_4 (List.mem_of_getElem? (i := 30) rfl) rfl
theorem wd_4_31 : Cond.methodLink RX10 207 yX10_refuse ∈ gw := tg_4 (List.mem_of_getElem? (i := 31) rfl) rfl
theorem wd_4_33 : Cond.instanceMethod yX10_refuse ∈ gw := tg_4 (List.mem_of_getElem? (i := 33) rfl) rfl
theorem wd_4_34 : Cond.code yX10_refuse cX10_refuse 2 (some .int) ∈ gw := tg_4 (List.mem_of_getElem? (i := 34) rfl) rfl
theorem wd_4_35 : Cond.methodLinkNest RX10 210 yX7_fits "TurnShifts" ∈ nestW := tn_4 (List.mem_of_getElem? (i := 35) rfl) rfl
theorem wd_4_36 : Cond.methodLinkNest RX10 213 yX1_add "TurnShifts" ∈ nestW := tn_4 (List.mem_of_getElem? (i := 36) rfl) rfl
theorem wd_4_38 : Cond.instanceMethod yX1_add ∈ gw := tg_4 (List.mem_of_getElem? (i := 38) rfl) rfl
theorem wd_4_39 : Cond.code yX1_add cX1_add 7 (some .int) ∈ gw := tg_4 (List.mem_of_getElem? (i := 39) rfl) rfl
theorem wd_4_40 : Cond.methodLink RL 77 yX10_orders ∈ gw := tg_4 (List.mem_of_getElem? (i := 40) rfl) rfl
theorem wd_4_41 : Cond.instanceMethod yX10_orders ∈ gw := tg_4 (List.mem_of_getElem? (i := 41) rfl) rfl
theorem wd_4_42 : Cond.selects RX10 yX10_orders yX10_orders ∈ gw := tg_4 (List.mem_of_getElem? (i := 42) rfl) rfl
theorem wd_4_43 : Cond.code yX10_orders cX10_orders 1 (some .int) ∈ gw := tg_4 (List.mem_of_getElem? (i := 43) rfl) rfl
theorem wd_4_44 : Cond.methodLink RX10 217 yX10_linesFit ∈ gw := tg_4 (List.mem_of_getElem? (i := 44) rfl) rfl
theorem wd_4_46 : Cond.instanceMethod yX10_linesFit ∈ gw := tg_4 (List.mem_of_getElem? (i := 46) rfl) rfl
theorem wd_4_47 : Cond.code yX10_linesFit cX10_linesFit 3 (some .boolean) ∈ gw := tg_4 (List.mem_of_getElem? (i := 47) rfl) rfl
theorem wd_4_48 : Cond.methodLinkNest RX10 358 yX3_isTied "TurnShifts" ∈ nestW := tn_4 (List.mem_of_getElem? (i := 48) rfl) rfl
theorem wd_4_50 : Cond.instanceMethod yX3_isTied ∈ gw := tg_4 (List.mem_of_getElem? (i := 50) rfl) rfl
theorem wd_4_51 : Cond.code yX3_isTied cX3_isTied 3 (some .boolean) ∈ gw := tg_4 (List.mem_of_getElem? (i := 51) rfl) rfl
theorem wd_4_52 : Cond.methodLink RX10 224 yX10_takeLines ∈ gw := tg_4 (List.mem_of_getElem? (i := 52) rfl) rfl
theorem wd_4_54 : Cond.instanceMethod yX10_takeLines ∈ gw := tg_4 (List.mem_of_getElem? (i := 54) rfl) rfl
theorem wd_4_55 : Cond.code yX10_takeLines cX10_takeLines 6 none ∈ gw := tg_4 (List.mem_of_getElem? (i := 55) rfl) rfl
theorem wd_4_56 : Cond.methodLinkNest RX10 242 yX1_tie "TurnShifts" ∈ nestW := tn_4 (List.mem_of_getElem? (i := 56) rfl) rfl
theorem wd_4_58 : Cond.instanceMethod yX1_tie ∈ gw := tg_4 (List.mem_of_getElem? (i := 58) rfl) rfl
theorem wd_4_59 : Cond.code yX1_tie cX1_tie 4 none ∈ gw := tg_4 (List.mem_of_getElem? (i := 59) rfl) rfl
theorem wd_4_60 : Cond.methodLink RL 81 yX10_drop ∈ gw := tg_4 (List.mem_of_getElem? (i := 60) rfl) rfl
theorem wd_4_61 : Cond.instanceMethod yX10_drop ∈ gw := tg_4 (List.mem_of_getElem? (i := 61) rfl) rfl
theorem wd_4_62 : Cond.selects RX10 yX10_drop yX10_drop ∈ gw := tg_4 (List.mem_of_getElem? (i := 62) rfl) rfl
theorem wd_4_63 : Cond.code yX10_drop cX10_drop 2 (some .boolean) ∈ gw := tg_4 (List.mem_of_getElem? (i := 63) rfl) rfl
theorem wd_4_64 : Cond.methodLink RX10 227 yX10_isJob ∈ gw := tg_4 (List.mem_of_getElem? (i := 64) rfl) rfl
theorem wd_4_66 : Cond.instanceMethod yX10_isJob ∈ gw := tg_4 (List.mem_of_getElem? (i := 66) rfl) rfl
theorem wd_4_67 : Cond.code yX10_isJob cX10_isJob 2 (some .boolean) ∈ gw := tg_4 (List.mem_of_getElem? (i := 67) rfl) rfl
theorem wd_4_68 : Cond.methodLink RX10 230 yX10_allow ∈ gw := tg_4 (List.mem_of_getElem? (i := 68) rfl) rfl
theorem wd_4_70 : Cond.instanceMethod yX10_allow ∈ gw := tg_4 (List.mem_of_getElem? (i := 70) rfl) rfl
theorem wd_4_71 : Cond.code yX10_allow cX10_allow 2 (some .boolean) ∈ gw := tg_4 (List.mem_of_getElem? (i := 71) rfl) rfl
theorem wd_4_72 : Cond.methodLinkNest RX10 236 yX1_isAwaited "TurnShifts" ∈ nestW := tn_4 (List.mem_of_getElem? (i := 72) rfl) rfl
theorem wd_4_74 : Cond.instanceMethod yX1_isAwaited ∈ gw := tg_4 (List.mem_of_getElem? (i := 74) rfl) rfl
theorem wd_4_75 : Cond.code yX1_isAwaited cX1_isAwaited 3 (some .boolean) ∈ gw := tg_4 (List.mem_of_getElem? (i := 75) rfl) rfl
theorem wd_4_76 : Cond.methodLink RL 85 yX10_link ∈ gw := tg_4 (List.mem_of_getElem? (i := 76) rfl) rfl
theorem wd_4_77 : Cond.instanceMethod yX10_link ∈ gw := tg_4 (List.mem_of_getElem? (i := 77) rfl) rfl
theorem wd_4_78 : Cond.selects RX10 yX10_link yX10_link ∈ gw := tg_4 (List.mem_of_getElem? (i := 78) rfl) rfl
theorem wd_4_79 : Cond.code yX10_link cX10_link 5 (some .boolean) ∈ gw := tg_4 (List.mem_of_getElem? (i := 79) rfl) rfl
theorem wd_4_80 : Cond.methodLink RX10 239 yX10_isOperand ∈ gw := tg_4 (List.mem_of_getElem? (i := 80) rfl) rfl
theorem wd_4_81 : Cond.static yX10_isOperand ∈ gw := tg_4 (List.mem_of_getElem? (i := 81) rfl) rfl
theorem wd_4_82 : Cond.code yX10_isOperand cX10_isOperand 1 (some .boolean) ∈ gw := tg_4 (List.mem_of_getElem? (i := 82) rfl) rfl
theorem wd_4_83 : Cond.methodLink RL 90 yX10_linked ∈ gw := tg_4 (List.mem_of_getElem? (i := 83) rfl) rfl
theorem wd_4_84 : Cond.instanceMethod yX10_linked ∈ gw := tg_4 (List.mem_of_getElem? (i := 84) rfl) rfl
theorem wd_4_85 : Cond.selects RX10 yX10_linked yX10_linked ∈ gw := tg_4 (List.mem_of_getElem? (i := 85) rfl) rfl
theorem wd_4_86 : Cond.code yX10_linked cX10_linked 3 (some .int) ∈ gw := tg_4 (List.mem_of_getElem? (i := 86) rfl) rfl
theorem wd_4_87 : Cond.methodLink RL 94 yX10_clock ∈ gw := tg_4 (List.mem_of_getElem? (i := 87) rfl) rfl
theorem wd_4_88 : Cond.instanceMethod yX10_clock ∈ gw := tg_4 (List.mem_of_getElem? (i := 88) rfl) rfl
theorem wd_4_89 : Cond.selects RX10 yX10_clock yX10_clock ∈ gw := tg_4 (List.mem_of_getElem? (i := 89) rfl) rfl
theorem wd_4_90 : Cond.code yX10_clock cX10_clock 4 (some .int) ∈ gw := tg_4 (List.mem_of_getElem? (i := 90) rfl) rfl
theorem wd_4_91 : Cond.methodLinkNest RX10 249 yX1_tick "TurnShifts" ∈ nestW := tn_4 (List.mem_of_getElem? (i := 91) rfl) rfl
theorem wd_4_93 : Cond.instanceMethod yX1_tick ∈ gw := tg_4 (List.mem_of_getElem? (i := 93) rfl) rfl
theorem wd_4_94 : Cond.code yX1_tick cX1_tick 4 (some .int) ∈ gw := tg_4 (List.mem_of_getElem? (i := 94) rfl) rfl
theorem wd_4_95 : Cond.methodLink RX1 64 yX1_isBusy ∈ gw := tg_4 (List.mem_of_getElem? (i := 95) rfl) rfl
theorem wd_4_97 : Cond.instanceMethod yX1_isBusy ∈ gw := tg_4 (List.mem_of_getElem? (i := 97) rfl) rfl
theorem wd_4_98 : Cond.code yX1_isBusy cX1_isBusy 1 (some .boolean) ∈ gw := tg_4 (List.mem_of_getElem? (i := 98) rfl) rfl
theorem wd_4_99 : Cond.methodLink RX1 74 yX1_goOn ∈ gw := tg_4 (List.mem_of_getElem? (i := 99) rfl) rfl
theorem wd_4_101 : Cond.instanceMethod yX1_goOn ∈ gw := tg_4 (List.mem_of_getElem? (i := 101) rfl) rfl
theorem wd_4_102 : Cond.code yX1_goOn cX1_goOn 4 (some .int) ∈ gw := tg_4 (List.mem_of_getElem? (i := 102) rfl) rfl
theorem wd_4_103 : Cond.methodLink RX1 78 yX1_waiting ∈ gw := tg_4 (List.mem_of_getElem? (i := 103) rfl) rfl
theorem wd_4_105 : Cond.instanceMethod yX1_waiting ∈ gw := tg_4 (List.mem_of_getElem? (i := 105) rfl) rfl
theorem wd_4_106 : Cond.code yX1_waiting cX1_waiting 4 (some .int) ∈ gw := tg_4 (List.mem_of_getElem? (i := 106) rfl) rfl
theorem wd_4_107 : Cond.methodLink RX1 81 yX1_standsIn ∈ gw := tg_4 (List.mem_of_getElem? (i := 107) rfl) rfl
theorem wd_4_109 : Cond.instanceMethod yX1_standsIn ∈ gw := tg_4 (List.mem_of_getElem? (i := 109) rfl) rfl
theorem wd_4_110 : Cond.code yX1_standsIn cX1_standsIn 4 (some .int) ∈ gw := tg_4 (List.mem_of_getElem? (i := 110) rfl) rfl
theorem wd_4_111 : Cond.methodLink RX1 85 yX1_mustWait ∈ gw := tg_4 (List.mem_of_getElem? (i := 111) rfl) rfl
theorem wd_4_113 : Cond.instanceMethod yX1_mustWait ∈ gw := tg_4 (List.mem_of_getElem? (i := 113) rfl) rfl
theorem wd_4_114 : Cond.code yX1_mustWait cX1_mustWait 4 (some .boolean) ∈ gw := tg_4 (List.mem_of_getElem? (i := 114) rfl) rfl
theorem wd_4_115 : Cond.methodLink RX1 89 yX1_bringIn ∈ gw := tg_4 (List.mem_of_getElem? (i := 115) rfl) rfl
theorem wd_4_117 : Cond.instanceMethod yX1_bringIn ∈ gw := tg_4 (List.mem_of_getElem? (i := 117) rfl) rfl
theorem wd_4_118 : Cond.code yX1_bringIn cX1_bringIn 7 none ∈ gw := tg_4 (List.mem_of_getElem? (i := 118) rfl) rfl
theorem wd_4_119 : Cond.methodLinkNest RX1 93 yX7_solve "TurnShifts" ∈ nestW := tn_4 (List.mem_of_getElem? (i := 119) rfl) rfl
theorem wd_4_120 : Cond.methodLinkNest RX1 97 yX7_answer "TurnShifts" ∈ nestW := tn_4 (List.mem_of_getElem? (i := 120) rfl) rfl
theorem wd_4_121 : Cond.methodLinkNest RX1 101 yX7_fits "TurnShifts" ∈ nestW := tn_4 (List.mem_of_getElem? (i := 121) rfl) rfl
theorem wd_4_122 : Cond.methodLink RL 98 yX10_hold ∈ gw := tg_4 (List.mem_of_getElem? (i := 122) rfl) rfl
theorem wd_4_123 : Cond.instanceMethod yX10_hold ∈ gw := tg_4 (List.mem_of_getElem? (i := 123) rfl) rfl
theorem wd_4_124 : Cond.selects RX10 yX10_hold yX10_hold ∈ gw := tg_4 (List.mem_of_getElem? (i := 124) rfl) rfl
theorem wd_4_125 : Cond.code yX10_hold cX10_hold 2 (some .boolean) ∈ gw := tg_4 (List.mem_of_getElem? (i := 125) rfl) rfl
theorem wd_4_126 : Cond.methodLink RL 112 yX10_result ∈ gw := tg_4 (List.mem_of_getElem? (i := 126) rfl) rfl
theorem wd_4_127 : Cond.instanceMethod yX10_result ∈ gw := tg_4 (List.mem_of_getElem? (i := 127) rfl) rfl
theorem wd_4_128 : Cond.selects RX10 yX10_result yX10_result ∈ gw := tg_4 (List.mem_of_getElem? (i := 128) rfl) rfl
theorem wd_4_129 : Cond.code yX10_result cX10_result 4 (some .int) ∈ gw := tg_4 (List.mem_of_getElem? (i := 129) rfl) rfl
theorem wd_4_130 : Cond.methodLink RL 116 yX10_trace ∈ gw := tg_4 (List.mem_of_getElem? (i := 130) rfl) rfl
theorem wd_4_131 : Cond.instanceMethod yX10_trace ∈ gw := tg_4 (List.mem_of_getElem? (i := 131) rfl) rfl
theorem wd_4_132 : Cond.selects RX10 yX10_trace yX10_trace ∈ gw := tg_4 (List.mem_of_getElem? (i := 132) rfl) rfl
theorem wd_4_133 : Cond.code yX10_trace cX10_trace 4 (some .long) ∈ gw := tg_4 (List.mem_of_getElem? (i := 133) rfl) rfl
theorem wd_4_134 : Cond.methodLink RX10 287 yX10_hasBegun ∈ gw := tg_4 (List.mem_of_getElem? (i := 134) rfl) rfl
theorem wd_4_136 : Cond.instanceMethod yX10_hasBegun ∈ gw := tg_4 (List.mem_of_getElem? (i := 136) rfl) rfl
theorem wd_4_137 : Cond.code yX10_hasBegun cX10_hasBegun 2 (some .boolean) ∈ gw := tg_4 (List.mem_of_getElem? (i := 137) rfl) rfl
theorem wd_4_138 : Cond.constantLong RX10 292 (-9223372036854775808) ∈ gw := tg_4 (List.mem_of_getElem? (i := 138) rfl) rfl
theorem wd_4_139 : Cond.methodLinkNest RX10 294 yX1_turnAgain "TurnShifts" ∈ nestW := tn_4 (List.mem_of_getElem? (i := 139) rfl) rfl
theorem wd_4_141 : Cond.instanceMethod yX1_turnAgain ∈ gw := tg_4 (List.mem_of_getElem? (i := 141) rfl) rfl
theorem wd_4_142 : Cond.code yX1_turnAgain cX1_turnAgain 5 none ∈ gw := tg_4 (List.mem_of_getElem? (i := 142) rfl) rfl
theorem wd_4_143 : Cond.methodLinkNest RX1 104 yX7_begin "TurnShifts" ∈ nestW := tn_4 (List.mem_of_getElem? (i := 143) rfl) rfl
theorem wd_4_144 : Cond.methodLinkNest RX1 108 yX7_goThrough "TurnShifts" ∈ nestW := tn_4 (List.mem_of_getElem? (i := 144) rfl) rfl
theorem wd_4_145 : Cond.methodLink RL 121 yX10_signs ∈ gw := tg_4 (List.mem_of_getElem? (i := 145) rfl) rfl
theorem wd_4_146 : Cond.instanceMethod yX10_signs ∈ gw := tg_4 (List.mem_of_getElem? (i := 146) rfl) rfl
theorem wd_4_147 : Cond.selects RX10 yX10_signs yX10_signs ∈ gw := tg_4 (List.mem_of_getElem? (i := 147) rfl) rfl
theorem wd_4_148 : Cond.code yX10_signs cX10_signs 2 (some .int) ∈ gw := tg_4 (List.mem_of_getElem? (i := 148) rfl) rfl
theorem wd_4_149 : Cond.methodLink RL 125 yX10_register ∈ gw := tg_4 (List.mem_of_getElem? (i := 149) rfl) rfl
theorem wd_4_150 : Cond.instanceMethod yX10_register ∈ gw := tg_4 (List.mem_of_getElem? (i := 150) rfl) rfl
theorem wd_4_151 : Cond.selects RX10 yX10_register yX10_register ∈ gw := tg_4 (List.mem_of_getElem? (i := 151) rfl) rfl
theorem wd_4_152 : Cond.code yX10_register cX10_register 2 (some .int) ∈ gw := tg_4 (List.mem_of_getElem? (i := 152) rfl) rfl
theorem wd_4_153 : Cond.methodLinkNest RX10 310 yX1_aheadOf "TurnShifts" ∈ nestW := tn_4 (List.mem_of_getElem? (i := 153) rfl) rfl
theorem wd_4_155 : Cond.instanceMethod yX1_aheadOf ∈ gw := tg_4 (List.mem_of_getElem? (i := 155) rfl) rfl
theorem wd_4_156 : Cond.code yX1_aheadOf cX1_aheadOf 3 (some .int) ∈ gw := tg_4 (List.mem_of_getElem? (i := 156) rfl) rfl
theorem wd_4_157 : Cond.methodLink RL 129 yX10_place ∈ gw := tg_4 (List.mem_of_getElem? (i := 157) rfl) rfl
theorem wd_4_158 : Cond.instanceMethod yX10_place ∈ gw := tg_4 (List.mem_of_getElem? (i := 158) rfl) rfl
theorem wd_4_159 : Cond.selects RX10 yX10_place yX10_place ∈ gw := tg_4 (List.mem_of_getElem? (i := 159) rfl) rfl
theorem wd_4_160 : Cond.code yX10_place cX10_place 2 (some .int) ∈ gw := tg_4 (List.mem_of_getElem? (i := 160) rfl) rfl
theorem wd_4_161 : Cond.methodLinkNest RX10 313 yX1_standsIn "TurnShifts" ∈ nestW := tn_4 (List.mem_of_getElem? (i := 161) rfl) rfl
theorem wd_4_162 : Cond.methodLink RL 133 yX10_allOver ∈ gw := tg_4 (List.mem_of_getElem? (i := 162) rfl) rfl
theorem wd_4_163 : Cond.instanceMethod yX10_allOver ∈ gw := tg_4 (List.mem_of_getElem? (i := 163) rfl) rfl
theorem wd_4_164 : Cond.selects RX10 yX10_allOver yX10_allOver ∈ gw := tg_4 (List.mem_of_getElem? (i := 164) rfl) rfl
theorem wd_4_165 : Cond.code yX10_allOver cX10_allOver 3 (some .int) ∈ gw := tg_4 (List.mem_of_getElem? (i := 165) rfl) rfl
theorem wd_4_166 : Cond.methodLinkNest RX10 317 yX1_copyFrom "TurnShifts" ∈ nestW := tn_4 (List.mem_of_getElem? (i := 166) rfl) rfl
theorem wd_4_168 : Cond.instanceMethod yX1_copyFrom ∈ gw := tg_4 (List.mem_of_getElem? (i := 168) rfl) rfl
theorem wd_4_169 : Cond.code yX1_copyFrom cX1_copyFrom 2 none ∈ gw := tg_4 (List.mem_of_getElem? (i := 169) rfl) rfl
theorem wd_4_170 : Cond.methodLink RX1 50 arraycopyName ∈ gw := tg_4 (List.mem_of_getElem? (i := 170) rfl) rfl
theorem wd_4_171 : Cond.static arraycopyName ∈ gw := tg_4 (List.mem_of_getElem? (i := 171) rfl) rfl
theorem wd_4_172 : Cond.native arraycopyName ∈ gw := tg_4 (List.mem_of_getElem? (i := 172) rfl) rfl
theorem wd_4_173 : Cond.methodLinkNest RX10 321 yX1_isBusy "TurnShifts" ∈ nestW := tn_4 (List.mem_of_getElem? (i := 173) rfl) rfl
theorem wd_4_174 : Cond.methodLink RL 137 yX10_finest ∈ gw := tg_4 (List.mem_of_getElem? (i := 174) rfl) rfl
theorem wd_4_175 : Cond.instanceMethod yX10_finest ∈ gw := tg_4 (List.mem_of_getElem? (i := 175) rfl) rfl
theorem wd_4_176 : Cond.selects RX10 yX10_finest yX10_finest ∈ gw := tg_4 (List.mem_of_getElem? (i := 176) rfl) rfl
theorem wd_4_177 : Cond.code yX10_finest cX10_finest 6 (some .int) ∈ gw := tg_4 (List.mem_of_getElem? (i := 177) rfl) rfl
theorem wd_4_178 : Cond.methodLink RX10 324 yX10_solveBoth ∈ gw := tg_4 (List.mem_of_getElem? (i := 178) rfl) rfl
theorem wd_4_180 : Cond.instanceMethod yX10_solveBoth ∈ gw := tg_4 (List.mem_of_getElem? (i := 180) rfl) rfl
theorem wd_4_181 : Cond.code yX10_solveBoth cX10_solveBoth 9 (some .boolean) ∈ gw := tg_4 (List.mem_of_getElem? (i := 181) rfl) rfl
theorem wd_4_182 : Cond.methodLink RL 141 yX10_apart ∈ gw := tg_4 (List.mem_of_getElem? (i := 182) rfl) rfl
theorem wd_4_183 : Cond.instanceMethod yX10_apart ∈ gw := tg_4 (List.mem_of_getElem? (i := 183) rfl) rfl
theorem wd_4_184 : Cond.selects RX10 yX10_apart yX10_apart ∈ gw := tg_4 (List.mem_of_getElem? (i := 184) rfl) rfl
theorem wd_4_185 : Cond.code yX10_apart cX10_apart 6 (some .long) ∈ gw := tg_4 (List.mem_of_getElem? (i := 185) rfl) rfl
theorem wd_4_186 : Cond.constantLong RX10 327 (-2147483648) ∈ gw := tg_4 (List.mem_of_getElem? (i := 186) rfl) rfl
theorem wd_4_187 : Cond.methodLink RX10 329 yX10_distance ∈ gw := tg_4 (List.mem_of_getElem? (i := 187) rfl) rfl
theorem wd_4_189 : Cond.instanceMethod yX10_distance ∈ gw := tg_4 (List.mem_of_getElem? (i := 189) rfl) rfl
theorem wd_4_190 : Cond.code yX10_distance cX10_distance 2 (some .long) ∈ gw := tg_4 (List.mem_of_getElem? (i := 190) rfl) rfl
theorem wd_4_191 : Cond.methodLink RX10 364 yJ9_abs_067f4 ∈ gw := tg_4 (List.mem_of_getElem? (i := 191) rfl) rfl
theorem wd_4_192 : Cond.methodLink RL 146 yX10_fewest ∈ gw := tg_4 (List.mem_of_getElem? (i := 192) rfl) rfl
theorem wd_4_193 : Cond.instanceMethod yX10_fewest ∈ gw := tg_4 (List.mem_of_getElem? (i := 193) rfl) rfl
theorem wd_4_194 : Cond.selects RX10 yX10_fewest yX10_fewest ∈ gw := tg_4 (List.mem_of_getElem? (i := 194) rfl) rfl
theorem wd_4_195 : Cond.code yX10_fewest cX10_fewest 4 (some .int) ∈ gw := tg_4 (List.mem_of_getElem? (i := 195) rfl) rfl
theorem wd_4_196 : Cond.methodLink RL 150 yX10_sweep ∈ gw := tg_4 (List.mem_of_getElem? (i := 196) rfl) rfl
theorem wd_4_197 : Cond.instanceMethod yX10_sweep ∈ gw := tg_4 (List.mem_of_getElem? (i := 197) rfl) rfl
theorem wd_4_198 : Cond.selects RX10 yX10_sweep yX10_sweep ∈ gw := tg_4 (List.mem_of_getElem? (i := 198) rfl) rfl
theorem wd_4_199 : Cond.code yX10_sweep cX10_sweep 19 (some .long) ∈ gw := tg_4 (List.mem_of_getElem? (i := 199) rfl) rfl
theorem wd_4_200 : Cond.constantLong RX10 339 (-1) ∈ gw := tg_4 (List.mem_of_getElem? (i := 200) rfl) rfl
theorem wd_4_201 : Cond.methodLink RL 154 yX10_image ∈ gw := tg_4 (List.mem_of_getElem? (i := 201) rfl) rfl
theorem wd_4_202 : Cond.instanceMethod yX10_image ∈ gw := tg_4 (List.mem_of_getElem? (i := 202) rfl) rfl
theorem wd_4_203 : Cond.selects RX10 yX10_image yX10_image ∈ gw := tg_4 (List.mem_of_getElem? (i := 203) rfl) rfl
theorem wd_4_204 : Cond.code yX10_image cX10_image 1 (some .int) ∈ gw := tg_4 (List.mem_of_getElem? (i := 204) rfl) rfl
theorem wd_4_205 : Cond.methodLink RL 158 yX10_back ∈ gw := tg_4 (List.mem_of_getElem? (i := 205) rfl) rfl
theorem wd_4_206 : Cond.instanceMethod yX10_back ∈ gw := tg_4 (List.mem_of_getElem? (i := 206) rfl) rfl
theorem wd_4_207 : Cond.selects RX10 yX10_back yX10_back ∈ gw := tg_4 (List.mem_of_getElem? (i := 207) rfl) rfl
theorem wd_4_208 : Cond.code yX10_back cX10_back 1 (some .int) ∈ gw := tg_4 (List.mem_of_getElem? (i := 208) rfl) rfl
theorem wd_4_209 : Cond.methodLink RL 162 yX10_waits ∈ gw := tg_4 (List.mem_of_getElem? (i := 209) rfl) rfl
theorem wd_4_210 : Cond.instanceMethod yX10_waits ∈ gw := tg_4 (List.mem_of_getElem? (i := 210) rfl) rfl
theorem wd_4_211 : Cond.selects RX10 yX10_waits yX10_waits ∈ gw := tg_4 (List.mem_of_getElem? (i := 211) rfl) rfl
theorem wd_4_212 : Cond.code yX10_waits cX10_waits 2 (some .int) ∈ gw := tg_4 (List.mem_of_getElem? (i := 212) rfl) rfl
theorem wd_4_213 : Cond.methodLinkNest RX10 344 yX1_waiting "TurnShifts" ∈ nestW := tn_4 (List.mem_of_getElem? (i := 213) rfl) rfl
theorem wd_4_214 : Cond.methodLink RL 166 yX10_status ∈ gw := tg_4 (List.mem_of_getElem? (i := 214) rfl) rfl
theorem wd_4_215 : Cond.instanceMethod yX10_status ∈ gw := tg_4 (List.mem_of_getElem? (i := 215) rfl) rfl
theorem wd_4_216 : Cond.selects RX10 yX10_status yX10_status ∈ gw := tg_4 (List.mem_of_getElem? (i := 216) rfl) rfl
theorem wd_4_217 : Cond.code yX10_status cX10_status 2 (some .int) ∈ gw := tg_4 (List.mem_of_getElem? (i := 217) rfl) rfl
theorem wd_4_218 : Cond.methodLink RL 170 yX10_most ∈ gw := tg_4 (List.mem_of_getElem? (i := 218) rfl) rfl
theorem wd_4_219 : Cond.instanceMethod yX10_most ∈ gw := tg_4 (List.mem_of_getElem? (i := 219) rfl) rfl
theorem wd_4_220 : Cond.selects RX10 yX10_most yX10_most ∈ gw := tg_4 (List.mem_of_getElem? (i := 220) rfl) rfl
theorem wd_4_221 : Cond.code yX10_most cX10_most 2 (some .long) ∈ gw := tg_4 (List.mem_of_getElem? (i := 221) rfl) rfl
theorem wd_4_222 : Cond.methodLinkNest RX10 347 yX1_greatestLeft "TurnShifts" ∈ nestW := tn_4 (List.mem_of_getElem? (i := 222) rfl) rfl
theorem wd_4_224 : Cond.instanceMethod yX1_greatestLeft ∈ gw := tg_4 (List.mem_of_getElem? (i := 224) rfl) rfl
theorem wd_4_225 : Cond.code yX1_greatestLeft cX1_greatestLeft 6 (some .long) ∈ gw := tg_4 (List.mem_of_getElem? (i := 225) rfl) rfl
theorem wd_4_226 : Cond.fieldLinkNest RX1 112 "TurnShifts" "KINDS" "[LTurnShifts$Kind;" "TurnShifts" ∈ nestW := tn_4 (List.mem_of_getElem? (i := 226) rfl) rfl
theorem wd_4_227 : Cond.methodLink RX1 121 yX1_turnAgain ∈ gw := tg_4 (List.mem_of_getElem? (i := 227) rfl) rfl
theorem wd_4_228 : Cond.methodLink RX1 132 yJ9_abs_067f4 ∈ gw := tg_4 (List.mem_of_getElem? (i := 228) rfl) rfl
theorem wd_4_229 : Cond.methodLink RX1 138 yJ9_max_f86c9 ∈ gw := tg_4 (List.mem_of_getElem? (i := 229) rfl) rfl
theorem wd_4_230 : Cond.static yJ9_max_f86c9 ∈ gw := tg_4 (List.mem_of_getElem? (i := 230) rfl) rfl
theorem wd_4_231 : Cond.code yJ9_max_f86c9 cJ9_max_f86c9 4 (some .long) ∈ gw := tg_4 (List.mem_of_getElem? (i := 231) rfl) rfl
theorem wd_4_232 : Cond.methodLinkNest RX10 351 yX1_longestWay "TurnShifts" ∈ nestW := tn_4 (List.mem_of_getElem? (i := 232) rfl) rfl
theorem wd_4_234 : Cond.instanceMethod yX1_longestWay ∈ gw := tg_4 (List.mem_of_getElem? (i := 234) rfl) rfl
theorem wd_4_235 : Cond.code yX1_longestWay cX1_longestWay 4 (some .long) ∈ gw := tg_4 (List.mem_of_getElem? (i := 235) rfl) rfl
theorem wd_4_236 : Cond.methodLinkNest RX10 355 yX1_sumsMade "TurnShifts" ∈ nestW := tn_4 (List.mem_of_getElem? (i := 236) rfl) rfl
theorem wd_4_238 : Cond.instanceMethod yX1_sumsMade ∈ gw := tg_4 (List.mem_of_getElem? (i := 238) rfl) rfl
theorem wd_4_239 : Cond.code yX1_sumsMade cX1_sumsMade 5 (some .long) ∈ gw := tg_4 (List.mem_of_getElem? (i := 239) rfl) rfl
theorem wd_5_0 : Cond.methodLink RL 175 yX10_count ∈ gw := tg_5 (List.mem_of_getElem? (i := 0) rfl) rfl
theorem wd_5_1 : Cond.instanceMethod yX10_count ∈ gw := tg_5 (List.mem_of_getElem? (i := 1) rfl) rfl
theorem wd_5_2 : Cond.selects RX10 yX10_count yX10_count ∈ gw := tg_5 (List.mem_of_getElem? (i := 2) rfl) rfl
theorem wd_5_3 : Cond.code yX10_count cX10_count 2 (some .int) ∈ gw := tg_5 (List.mem_of_getElem? (i := 3) rfl) rfl
theorem wd_5_4 : Cond.methodLink RL 103 yL_told ∈ gw := tg_5 (List.mem_of_getElem? (i := 4) rfl) rfl
theorem wd_5_5 : Cond.static yL_told ∈ gw := tg_5 (List.mem_of_getElem? (i := 5) rfl) rfl
theorem wd_5_8 : Cond.methodLink RL 7 yX10_told ∈ gw := tg_5 (List.mem_of_getElem? (i := 8) rfl) rfl
theorem wd_5_9 : Cond.instanceMethod yX10_told ∈ gw := tg_5 (List.mem_of_getElem? (i := 9) rfl) rfl
theorem wd_5_10 : Cond.selects RX10 yX10_told yX10_told ∈ gw := tg_5 (List.mem_of_getElem? (i := 10) rfl) rfl
theorem wd_5_11 : Cond.code yX10_told cX10_told 3 (some .int) ∈ gw := tg_5 (List.mem_of_getElem? (i := 11) rfl) rfl
theorem wd_5_21 : Cond.selects "java/util/NoSuchElementException" ⟨"java/lang/Throwable", "fillInStackTrace", "(I)Ljava/lang/Throwable;"⟩ ⟨"java/lang/Throwable", "fillInStackTrace", "(I)Ljava/lang/Throwable;"⟩ ∈ gw := tg_5 (List.mem_of_getElem? (i := 21) rfl) rfl
theorem wd_5_22 : Cond.selects "java/util/NoSuchElementException" ⟨"java/lang/Throwable", "fillInStackTrace", "()Ljava/lang/Throwable;"⟩ ⟨"java/lang/Throwable", "fillInStackTrace", "()Ljava/lang/Throwable;"⟩ ∈ gw := tg_5 (List.mem_of_getElem? (i := 22) rfl) rfl
theorem wd_5_23 : Cond.lays "java/util/NoSuchElementException" "java/lang/Throwable" "cause" "Ljava/lang/Throwable;" ∈ gw := tg_5 (List.mem_of_getElem? (i := 23) rfl) rfl
theorem wd_5_24 : Cond.lays "java/lang/Throwable" "java/lang/Throwable" "cause" "Ljava/lang/Throwable;" ∈ gw := tg_5 (List.mem_of_getElem? (i := 24) rfl) rfl
theorem wd_5_25 : Cond.lays "java/util/NoSuchElementException" "java/lang/Throwable" "stackTrace" "[Ljava/lang/StackTraceElement;" ∈ gw := tg_5 (List.mem_of_getElem? (i := 25) rfl) rfl
theorem wd_5_26 : Cond.lays "java/lang/Throwable" "java/lang/Throwable" "stackTrace" "[Ljava/lang/StackTraceElement;" ∈ gw := tg_5 (List.mem_of_getElem? (i := 26) rfl) rfl
theorem wd_5_27 : Cond.lays "java/util/NoSuchElementException" "java/lang/Throwable" "suppressedExceptions" "Ljava/util/List;" ∈ gw := tg_5 (List.mem_of_getElem? (i := 27) rfl) rfl
theorem wd_5_28 : Cond.lays "java/lang/Throwable" "java/lang/Throwable" "suppressedExceptions" "Ljava/util/List;" ∈ gw := tg_5 (List.mem_of_getElem? (i := 28) rfl) rfl
theorem wd_5_29 : Cond.lays "java/util/NoSuchElementException" "java/lang/Throwable" "detailMessage" "Ljava/lang/String;" ∈ gw := tg_5 (List.mem_of_getElem? (i := 29) rfl) rfl
theorem wd_5_30 : Cond.lays "java/lang/Throwable" "java/lang/Throwable" "detailMessage" "Ljava/lang/String;" ∈ gw := tg_5 (List.mem_of_getElem? (i := 30) rfl) rfl
theorem wd_5_31 : Cond.lays "java/util/NoSuchElementException" "java/lang/Throwable" "backtrace" "Ljava/lang/Object;" ∈ gw := tg_5 (List.mem_of_getElem? (i := 31) rfl) rfl
theorem wd_5_32 : Cond.lays "java/lang/Throwable" "java/lang/Throwable" "backtrace" "Ljava/lang/Object;" ∈ gw := tg_5 (List.mem_of_getElem? (i := 32) rfl) rfl
theorem wd_5_64 : Cond.fieldLink "java/lang/Throwable" 198 "java/lang/Throwable" "backtrace" "Ljava/lang/Object;" ∈ gw := tg_5 (List.mem_of_getElem? (i := 64) rfl) rfl
theorem wd_5_35 : Cond.instanceMethod ⟨"java/lang/Throwable", "<init>", "()V"⟩ ∈ gw := tg_5 (List.mem_of_getElem? (i := 35) rfl) rfl
theorem wd_5_37 : Cond.methodLink "java/lang/Throwable" 1 objectInit ∈ gw := tg_5 (List.mem_of_getElem? (i := 37) rfl) rfl
theorem wd_5_38 : Cond.fieldLink "java/lang/Throwable" 13 "java/lang/Throwable" "UNASSIGNED_STACK" "[Ljava/lang/StackTraceElement;" ∈ gw := tg_5 (List.mem_of_getElem? (i := 38) rfl) rfl
theorem wd_5_40 : Cond.fieldLink "java/lang/Throwable" 20 "java/lang/Throwable" "SUPPRESSED_SENTINEL" "Ljava/util/List;" ∈ gw := tg_5 (List.mem_of_getElem? (i := 40) rfl) rfl
theorem wd_5_42 : Cond.methodLink "java/lang/Throwable" 27 ⟨"java/lang/Throwable", "fillInStackTrace", "()Ljava/lang/Throwable;"⟩ ∈ gw := tg_5 (List.mem_of_getElem? (i := 42) rfl) rfl
theorem wd_5_43 : Cond.instanceMethod ⟨"java/lang/Throwable", "fillInStackTrace", "()Ljava/lang/Throwable;"⟩ ∈ gw := tg_5 (List.mem_of_getElem? (i := 43) rfl) rfl
theorem wd_5_44 : Cond.sameMethod "java/lang/Throwable" "java/lang/Throwable" "fillInStackTrace" "()Ljava/lang/Throwable;" ∈ gw := tg_5 (List.mem_of_getElem? (i := 44) rfl) rfl
theorem wd_5_46 : Cond.methodLink "java/lang/Throwable" 202 ⟨"java/lang/Throwable", "fillInStackTrace", "(I)Ljava/lang/Throwable;"⟩ ∈ gw := tg_5 (List.mem_of_getElem? (i := 46) rfl) rfl
theorem wd_5_48 : Cond.instanceMethod ⟨"java/lang/Throwable", "fillInStackTrace", "(I)Ljava/lang/Throwable;"⟩ ∈ gw := tg_5 (List.mem_of_getElem? (i := 48) rfl) rfl
theorem wd_5_50 : Cond.native ⟨"java/lang/Throwable", "fillInStackTrace", "(I)Ljava/lang/Throwable;"⟩ ∈ gw := tg_5 (List.mem_of_getElem? (i := 50) rfl) rfl
theorem wd_5_52 : Cond.methodLink RX10 257 ⟨"java/util/NoSuchElementException", "<init>", "(Ljava/lang/String;)V"⟩ ∈ gw := tg_5 (List.mem_of_getElem? (i := 52) rfl) rfl
theorem wd_5_53 : Cond.instanceMethod ⟨"java/util/NoSuchElementException", "<init>", "(Ljava/lang/String;)V"⟩ ∈ gw := tg_5 (List.mem_of_getElem? (i := 53) rfl) rfl
theorem wd_5_55 : Cond.methodLink "java/util/NoSuchElementException" 13 ⟨"java/lang/RuntimeException", "<init>", "(Ljava/lang/String;)V"⟩ ∈ gw := tg_5 (List.mem_of_getElem? (i := 55) rfl) rfl
theorem wd_5_56 : Cond.instanceMethod ⟨"java/lang/RuntimeException", "<init>", "(Ljava/lang/String;)V"⟩ ∈ gw := tg_5 (List.mem_of_getElem? (i := 56) rfl) rfl
theorem wd_5_58 : Cond.methodLink "java/lang/RuntimeException" 7 ⟨"java/lang/Exception", "<init>", "(Ljava/lang/String;)V"⟩ ∈ gw := tg_5 (List.mem_of_getElem? (i := 58) rfl) rfl
theorem wd_5_59 : Cond.instanceMethod ⟨"java/lang/Exception", "<init>", "(Ljava/lang/String;)V"⟩ ∈ gw := tg_5 (List.mem_of_getElem? (i := 59) rfl) rfl
theorem wd_5_61 : Cond.methodLink "java/lang/Exception" 7 ⟨"java/lang/Throwable", "<init>", "(Ljava/lang/String;)V"⟩ ∈ gw := tg_5 (List.mem_of_getElem? (i := 61) rfl) rfl
theorem wd_5_62 : Cond.instanceMethod ⟨"java/lang/Throwable", "<init>", "(Ljava/lang/String;)V"⟩ ∈ gw := tg_5 (List.mem_of_getElem? (i := 62) rfl) rfl
theorem wd_5_65 : Cond.fieldLink "java/lang/Throwable" 31 "java/lang/Throwable" "detailMessage" "Ljava/lang/String;" ∈ gw := tg_5 (List.mem_of_getElem? (i := 65) rfl) rfl
theorem wd_5_66 : Cond.fieldLink "java/lang/Throwable" 7 "java/lang/Throwable" "cause" "Ljava/lang/Throwable;" ∈ gw := tg_5 (List.mem_of_getElem? (i := 66) rfl) rfl
theorem wd_5_67 : Cond.fieldLink "java/lang/Throwable" 17 "java/lang/Throwable" "stackTrace" "[Ljava/lang/StackTraceElement;" ∈ gw := tg_5 (List.mem_of_getElem? (i := 67) rfl) rfl
theorem wd_5_68 : Cond.fieldLink "java/lang/Throwable" 24 "java/lang/Throwable" "suppressedExceptions" "Ljava/util/List;" ∈ gw := tg_5 (List.mem_of_getElem? (i := 68) rfl) rfl
theorem wd_5_73 : Cond.lays "java/util/NoSuchElementException" "java/lang/Throwable" "depth" "I" ∈ gw := tg_5 (List.mem_of_getElem? (i := 73) rfl) rfl
theorem wd_5_78 : Cond.methodLink RX10 272 yX10_kindOf ∈ gw := tg_5 (List.mem_of_getElem? (i := 78) rfl) rfl
theorem wd_5_80 : Cond.instanceMethod yX10_kindOf ∈ gw := tg_5 (List.mem_of_getElem? (i := 80) rfl) rfl
theorem wd_5_81 : Cond.code yX10_kindOf cX10_kindOf 2 (some (.object "TurnShifts$Kind")) ∈ gw := tg_5 (List.mem_of_getElem? (i := 81) rfl) rfl
theorem wd_5_82 : Cond.methodLink RL 109 yX11_thrown ∈ gw := tg_5 (List.mem_of_getElem? (i := 82) rfl) rfl
theorem wd_5_83 : Cond.instanceMethod yX11_thrown ∈ gw := tg_5 (List.mem_of_getElem? (i := 83) rfl) rfl
theorem wd_5_84 : Cond.selects RX11 yX11_thrown yX11_thrown ∈ gw := tg_5 (List.mem_of_getElem? (i := 84) rfl) rfl
theorem wd_5_85 : Cond.code yX11_thrown cX11_thrown 1 (some .int) ∈ gw := tg_5 (List.mem_of_getElem? (i := 85) rfl) rfl
theorem wd_5_86 : Cond.methodLink RL 23 yX11_feed ∈ gw := tg_5 (List.mem_of_getElem? (i := 86) rfl) rfl
theorem wd_5_87 : Cond.instanceMethod yX11_feed ∈ gw := tg_5 (List.mem_of_getElem? (i := 87) rfl) rfl
theorem wd_5_88 : Cond.selects RX11 yX11_feed yX11_feed ∈ gw := tg_5 (List.mem_of_getElem? (i := 88) rfl) rfl
theorem wd_5_89 : Cond.code yX11_feed cX11_feed 6 (some .int) ∈ gw := tg_5 (List.mem_of_getElem? (i := 89) rfl) rfl
theorem wd_5_90 : Cond.methodLink RX11 16 yX11_bytesOf ∈ gw := tg_5 (List.mem_of_getElem? (i := 90) rfl) rfl
theorem wd_5_91 : Cond.static yX11_bytesOf ∈ gw := tg_5 (List.mem_of_getElem? (i := 91) rfl) rfl
theorem wd_5_92 : Cond.code yX11_bytesOf cX11_bytesOf 3 (some .int) ∈ gw := tg_5 (List.mem_of_getElem? (i := 92) rfl) rfl
theorem wd_5_93 : Cond.methodLink RX11 20 yX11_brings ∈ gw := tg_5 (List.mem_of_getElem? (i := 93) rfl) rfl
theorem wd_5_95 : Cond.instanceMethod yX11_brings ∈ gw := tg_5 (List.mem_of_getElem? (i := 95) rfl) rfl
theorem wd_5_97 : Cond.code yX11_brings cX11_brings 4 none ∈ gw := tg_5 (List.mem_of_getElem? (i := 97) rfl) rfl
theorem wd_5_98 : Cond.methodLink RL 28 yX11_end ∈ gw := tg_5 (List.mem_of_getElem? (i := 98) rfl) rfl
theorem wd_5_99 : Cond.instanceMethod yX11_end ∈ gw := tg_5 (List.mem_of_getElem? (i := 99) rfl) rfl
theorem wd_5_100 : Cond.selects RX11 yX11_end yX11_end ∈ gw := tg_5 (List.mem_of_getElem? (i := 100) rfl) rfl
theorem wd_5_101 : Cond.code yX11_end cX11_end 2 (some .boolean) ∈ gw := tg_5 (List.mem_of_getElem? (i := 101) rfl) rfl
theorem wd_5_102 : Cond.methodLink RL 33 yX11_fault ∈ gw := tg_5 (List.mem_of_getElem? (i := 102) rfl) rfl
theorem wd_5_103 : Cond.instanceMethod yX11_fault ∈ gw := tg_5 (List.mem_of_getElem? (i := 103) rfl) rfl
theorem wd_5_104 : Cond.selects RX11 yX11_fault yX11_fault ∈ gw := tg_5 (List.mem_of_getElem? (i := 104) rfl) rfl
theorem wd_5_105 : Cond.code yX11_fault cX11_fault 2 (some .int) ∈ gw := tg_5 (List.mem_of_getElem? (i := 105) rfl) rfl
theorem wd_5_106 : Cond.methodLink RX11 93 yX11_readsUnit ∈ gw := tg_5 (List.mem_of_getElem? (i := 106) rfl) rfl
theorem wd_5_108 : Cond.instanceMethod yX11_readsUnit ∈ gw := tg_5 (List.mem_of_getElem? (i := 108) rfl) rfl
theorem wd_5_109 : Cond.code yX11_readsUnit cX11_readsUnit 2 (some .int) ∈ gw := tg_5 (List.mem_of_getElem? (i := 109) rfl) rfl
theorem wd_5_110 : Cond.methodLink RX11 89 yX11_piece ∈ gw := tg_5 (List.mem_of_getElem? (i := 110) rfl) rfl
theorem wd_5_112 : Cond.instanceMethod yX11_piece ∈ gw := tg_5 (List.mem_of_getElem? (i := 112) rfl) rfl
theorem wd_5_113 : Cond.code yX11_piece cX11_piece 5 none ∈ gw := tg_5 (List.mem_of_getElem? (i := 113) rfl) rfl
theorem wd_5_114 : Cond.methodLink RX11 58 yX11_look ∈ gw := tg_5 (List.mem_of_getElem? (i := 114) rfl) rfl
theorem wd_5_116 : Cond.instanceMethod yX11_look ∈ gw := tg_5 (List.mem_of_getElem? (i := 116) rfl) rfl
theorem wd_5_117 : Cond.code yX11_look cX11_look 1 (some .int) ∈ gw := tg_5 (List.mem_of_getElem? (i := 117) rfl) rfl
theorem wd_5_118 : Cond.methodLink RX11 27 yX11_here ∈ gw := tg_5 (List.mem_of_getElem? (i := 118) rfl) rfl
theorem wd_5_120 : Cond.instanceMethod yX11_here ∈ gw := tg_5 (List.mem_of_getElem? (i := 120) rfl) rfl
theorem wd_5_121 : Cond.code yX11_here cX11_here 1 (some .int) ∈ gw := tg_5 (List.mem_of_getElem? (i := 121) rfl) rfl
theorem wd_5_122 : Cond.methodLink RX11 72 yX11_wordEnd ∈ gw := tg_5 (List.mem_of_getElem? (i := 122) rfl) rfl
theorem wd_5_124 : Cond.instanceMethod yX11_wordEnd ∈ gw := tg_5 (List.mem_of_getElem? (i := 124) rfl) rfl
theorem wd_5_125 : Cond.code yX11_wordEnd cX11_wordEnd 2 (some .int) ∈ gw := tg_5 (List.mem_of_getElem? (i := 125) rfl) rfl
theorem wd_5_126 : Cond.methodLink RX11 75 yX11_wordHere ∈ gw := tg_5 (List.mem_of_getElem? (i := 126) rfl) rfl
theorem wd_5_128 : Cond.instanceMethod yX11_wordHere ∈ gw := tg_5 (List.mem_of_getElem? (i := 128) rfl) rfl
theorem wd_5_129 : Cond.code yX11_wordHere cX11_wordHere 2 (some .int) ∈ gw := tg_5 (List.mem_of_getElem? (i := 129) rfl) rfl
theorem wd_5_131 : Cond.methodLink RX11 44 yX11_isWord ∈ gw := tg_5 (List.mem_of_getElem? (i := 131) rfl) rfl
theorem wd_5_133 : Cond.instanceMethod yX11_isWord ∈ gw := tg_5 (List.mem_of_getElem? (i := 133) rfl) rfl
theorem wd_5_134 : Cond.code yX11_isWord cX11_isWord 4 (some .boolean) ∈ gw := tg_5 (List.mem_of_getElem? (i := 134) rfl) rfl
theorem wd_5_135 : Cond.methodLink RX11 34 yJ0_length_8abf5 ∈ gw := tg_5 (List.mem_of_getElem? (i := 135) rfl) rfl
theorem wd_5_136 : Cond.methodLink RX11 38 yJ0_charAt_5068e ∈ gw := tg_5 (List.mem_of_getElem? (i := 136) rfl) rfl
theorem wd_5_142 : Cond.methodLink RX11 69 yX11_fails ∈ gw := tg_5 (List.mem_of_getElem? (i := 142) rfl) rfl
theorem wd_5_144 : Cond.instanceMethod yX11_fails ∈ gw := tg_5 (List.mem_of_getElem? (i := 144) rfl) rfl
theorem wd_5_145 : Cond.code yX11_fails cX11_fails 2 none ∈ gw := tg_5 (List.mem_of_getElem? (i := 145) rfl) rfl
theorem wd_5_146 : Cond.methodLink RX11 85 yX11_number ∈ gw := tg_5 (List.mem_of_getElem? (i := 146) rfl) rfl
theorem wd_5_148 : Cond.instanceMethod yX11_number ∈ gw := tg_5 (List.mem_of_getElem? (i := 148) rfl) rfl
theorem wd_5_149 : Cond.code yX11_number cX11_number 6 (some .int) ∈ gw := tg_5 (List.mem_of_getElem? (i := 149) rfl) rfl
theorem wd_5_150 : Cond.methodLink RX11 61 yX11_isDigit ∈ gw := tg_5 (List.mem_of_getElem? (i := 150) rfl) rfl
theorem wd_5_151 : Cond.static yX11_isDigit ∈ gw := tg_5 (List.mem_of_getElem? (i := 151) rfl) rfl
theorem wd_5_152 : Cond.code yX11_isDigit cX11_isDigit 1 (some .boolean) ∈ gw := tg_5 (List.mem_of_getElem? (i := 152) rfl) rfl
theorem wd_5_153 : Cond.methodLink RX11 65 yX11_isIn ∈ gw := tg_5 (List.mem_of_getElem? (i := 153) rfl) rfl
theorem wd_5_154 : Cond.static yX11_isIn ∈ gw := tg_5 (List.mem_of_getElem? (i := 154) rfl) rfl
theorem wd_5_155 : Cond.code yX11_isIn cX11_isIn 6 (some .boolean) ∈ gw := tg_5 (List.mem_of_getElem? (i := 155) rfl) rfl
theorem wd_5_156 : Cond.methodLink RX11 96 yX11_readsOrders ∈ gw := tg_5 (List.mem_of_getElem? (i := 156) rfl) rfl
theorem wd_5_158 : Cond.instanceMethod yX11_readsOrders ∈ gw := tg_5 (List.mem_of_getElem? (i := 158) rfl) rfl
theorem wd_5_159 : Cond.code yX11_readsOrders cX11_readsOrders 1 (some .int) ∈ gw := tg_5 (List.mem_of_getElem? (i := 159) rfl) rfl
theorem wd_5_160 : Cond.methodLink RX11 139 yX11_orderLine ∈ gw := tg_5 (List.mem_of_getElem? (i := 160) rfl) rfl
theorem wd_5_162 : Cond.instanceMethod yX11_orderLine ∈ gw := tg_5 (List.mem_of_getElem? (i := 162) rfl) rfl
theorem wd_5_163 : Cond.code yX11_orderLine cX11_orderLine 6 none ∈ gw := tg_5 (List.mem_of_getElem? (i := 163) rfl) rfl
theorem wd_5_164 : Cond.methodLink RX11 129 yX11_kindHere ∈ gw := tg_5 (List.mem_of_getElem? (i := 164) rfl) rfl
theorem wd_5_166 : Cond.instanceMethod yX11_kindHere ∈ gw := tg_5 (List.mem_of_getElem? (i := 166) rfl) rfl
theorem wd_5_167 : Cond.code yX11_kindHere cX11_kindHere 2 (some .int) ∈ gw := tg_5 (List.mem_of_getElem? (i := 167) rfl) rfl
theorem wd_5_177 : Cond.methodLink RX11 132 yX11_namesOf ∈ gw := tg_5 (List.mem_of_getElem? (i := 177) rfl) rfl
theorem wd_5_178 : Cond.static yX11_namesOf ∈ gw := tg_5 (List.mem_of_getElem? (i := 178) rfl) rfl
theorem wd_5_179 : Cond.code yX11_namesOf cX11_namesOf 1 (some .int) ∈ gw := tg_5 (List.mem_of_getElem? (i := 179) rfl) rfl
theorem wd_5_180 : Cond.methodLink RX11 135 yX11_operand ∈ gw := tg_5 (List.mem_of_getElem? (i := 180) rfl) rfl
theorem wd_5_182 : Cond.instanceMethod yX11_operand ∈ gw := tg_5 (List.mem_of_getElem? (i := 182) rfl) rfl
theorem wd_5_183 : Cond.code yX11_operand cX11_operand 7 none ∈ gw := tg_5 (List.mem_of_getElem? (i := 183) rfl) rfl
theorem wd_5_184 : Cond.methodLink RX11 120 yX11_digits ∈ gw := tg_5 (List.mem_of_getElem? (i := 184) rfl) rfl
theorem wd_5_186 : Cond.instanceMethod yX11_digits ∈ gw := tg_5 (List.mem_of_getElem? (i := 186) rfl) rfl
theorem wd_5_187 : Cond.code yX11_digits cX11_digits 2 (some .int) ∈ gw := tg_5 (List.mem_of_getElem? (i := 187) rfl) rfl
theorem wd_5_189 : Cond.methodLink RL 18 yX11_init ∈ gw := tg_5 (List.mem_of_getElem? (i := 189) rfl) rfl
theorem wd_5_190 : Cond.instanceMethod yX11_init ∈ gw := tg_5 (List.mem_of_getElem? (i := 190) rfl) rfl
theorem wd_5_191 : Cond.code yX11_init cX11_init 1 none ∈ gw := tg_5 (List.mem_of_getElem? (i := 191) rfl) rfl
theorem wd_5_192 : Cond.methodLink RX11 218 objectInit ∈ gw := tg_5 (List.mem_of_getElem? (i := 192) rfl) rfl
theorem wd_5_193 : Cond.methodLink RX11 253 yX11_laysShifts ∈ gw := tg_5 (List.mem_of_getElem? (i := 193) rfl) rfl
theorem wd_5_195 : Cond.instanceMethod yX11_laysShifts ∈ gw := tg_5 (List.mem_of_getElem? (i := 195) rfl) rfl
theorem wd_5_196 : Cond.code yX11_laysShifts cX11_laysShifts 5 none ∈ gw := tg_5 (List.mem_of_getElem? (i := 196) rfl) rfl
theorem wd_5_197 : Cond.methodLink RX11 256 yX11_lays ∈ gw := tg_5 (List.mem_of_getElem? (i := 197) rfl) rfl
theorem wd_5_199 : Cond.instanceMethod yX11_lays ∈ gw := tg_5 (List.mem_of_getElem? (i := 199) rfl) rfl
theorem wd_5_200 : Cond.code yX11_lays cX11_lays 8 none ∈ gw := tg_5 (List.mem_of_getElem? (i := 200) rfl) rfl
theorem wd_5_201 : Cond.constantLong RX11 178 2 ∈ gw := tg_5 (List.mem_of_getElem? (i := 201) rfl) rfl
theorem wd_5_202 : Cond.methodLink RX11 161 yX11_eighth ∈ gw := tg_5 (List.mem_of_getElem? (i := 202) rfl) rfl
theorem wd_5_203 : Cond.static yX11_eighth ∈ gw := tg_5 (List.mem_of_getElem? (i := 203) rfl) rfl
theorem wd_5_204 : Cond.code yX11_eighth cX11_eighth 0 (some .long) ∈ gw := tg_5 (List.mem_of_getElem? (i := 204) rfl) rfl
theorem wd_5_205 : Cond.constantLong RX11 144 4 ∈ gw := tg_5 (List.mem_of_getElem? (i := 205) rfl) rfl
theorem wd_5_206 : Cond.constantLong RX11 146 5 ∈ gw := tg_5 (List.mem_of_getElem? (i := 206) rfl) rfl
theorem wd_5_207 : Cond.methodLink RX11 148 yX11_fifth ∈ gw := tg_5 (List.mem_of_getElem? (i := 207) rfl) rfl
theorem wd_5_208 : Cond.static yX11_fifth ∈ gw := tg_5 (List.mem_of_getElem? (i := 208) rfl) rfl
theorem wd_5_209 : Cond.code yX11_fifth cX11_fifth 10 (some .long) ∈ gw := tg_5 (List.mem_of_getElem? (i := 209) rfl) rfl
theorem wd_5_210 : Cond.constantLong RX11 142 72057594037927936 ∈ gw := tg_5 (List.mem_of_getElem? (i := 210) rfl) rfl
theorem wd_5_211 : Cond.constantLong RX11 152 239 ∈ gw := tg_5 (List.mem_of_getElem? (i := 211) rfl) rfl
theorem wd_5_212 : Cond.methodLink RX11 165 yX11_by ∈ gw := tg_5 (List.mem_of_getElem? (i := 212) rfl) rfl
theorem wd_5_213 : Cond.static yX11_by ∈ gw := tg_5 (List.mem_of_getElem? (i := 213) rfl) rfl
theorem wd_5_214 : Cond.code yX11_by cX11_by 3 (some .long) ∈ gw := tg_5 (List.mem_of_getElem? (i := 214) rfl) rfl
theorem wd_5_215 : Cond.constantLong RX11 206 3 ∈ gw := tg_5 (List.mem_of_getElem? (i := 215) rfl) rfl
theorem wd_5_216 : Cond.methodLink RX11 180 yX11_row ∈ gw := tg_5 (List.mem_of_getElem? (i := 216) rfl) rfl
theorem wd_5_218 : Cond.instanceMethod yX11_row ∈ gw := tg_5 (List.mem_of_getElem? (i := 218) rfl) rfl
theorem wd_5_219 : Cond.code yX11_row cX11_row 3 (some .int) ∈ gw := tg_5 (List.mem_of_getElem? (i := 219) rfl) rfl
theorem wd_5_220 : Cond.methodLink RX11 211 yX11_angleOf ∈ gw := tg_5 (List.mem_of_getElem? (i := 220) rfl) rfl
theorem wd_5_221 : Cond.static yX11_angleOf ∈ gw := tg_5 (List.mem_of_getElem? (i := 221) rfl) rfl
theorem wd_5_222 : Cond.code yX11_angleOf cX11_angleOf 3 (some .long) ∈ gw := tg_5 (List.mem_of_getElem? (i := 222) rfl) rfl
theorem wd_5_223 : Cond.methodLink RX11 157 yX11_terms ∈ gw := tg_5 (List.mem_of_getElem? (i := 223) rfl) rfl
theorem wd_5_224 : Cond.static yX11_terms ∈ gw := tg_5 (List.mem_of_getElem? (i := 224) rfl) rfl
theorem wd_5_225 : Cond.code yX11_terms cX11_terms 7 (some .long) ∈ gw := tg_5 (List.mem_of_getElem? (i := 225) rfl) rfl
theorem wd_5_226 : Cond.methodLink RX11 215 yX11_laysGain ∈ gw := tg_5 (List.mem_of_getElem? (i := 226) rfl) rfl
theorem wd_5_228 : Cond.instanceMethod yX11_laysGain ∈ gw := tg_5 (List.mem_of_getElem? (i := 228) rfl) rfl
theorem wd_5_229 : Cond.code yX11_laysGain cX11_laysGain 14 none ∈ gw := tg_5 (List.mem_of_getElem? (i := 229) rfl) rfl
theorem wd_5_230 : Cond.constantLong RX11 169 18014398509481984 ∈ gw := tg_5 (List.mem_of_getElem? (i := 230) rfl) rfl
theorem wd_5_231 : Cond.constantLong RX11 176 1073741824 ∈ gw := tg_5 (List.mem_of_getElem? (i := 231) rfl) rfl
theorem wd_5_232 : Cond.fieldLink RX11 5 "TurnShiftsModel" "thrown" "I" ∈ gw := tg_5 (List.mem_of_getElem? (i := 232) rfl) rfl
theorem wd_5_233 : Cond.fieldLink RX11 9 "TurnShiftsModel" "tape" "[B" ∈ gw := tg_5 (List.mem_of_getElem? (i := 233) rfl) rfl
theorem wd_5_234 : Cond.fieldLink RX11 13 "TurnShiftsModel" "length" "I" ∈ gw := tg_5 (List.mem_of_getElem? (i := 234) rfl) rfl
theorem wd_5_235 : Cond.fieldLink RX11 24 "TurnShiftsModel" "at" "I" ∈ gw := tg_5 (List.mem_of_getElem? (i := 235) rfl) rfl
theorem wd_5_236 : Cond.fieldLink RX11 31 "TurnShiftsModel" "fault" "I" ∈ gw := tg_5 (List.mem_of_getElem? (i := 236) rfl) rfl
theorem wd_5_237 : Cond.fieldLink RX11 81 "TurnShiftsModel" "read" "[I" ∈ gw := tg_5 (List.mem_of_getElem? (i := 237) rfl) rfl
theorem wd_5_238 : Cond.fieldLink RX11 78 "TurnShiftsModel" "toldWords" "I" ∈ gw := tg_5 (List.mem_of_getElem? (i := 238) rfl) rfl
theorem wd_5_239 : Cond.fieldLink RX11 126 "TurnShiftsModel" "order" "[I" ∈ gw := tg_5 (List.mem_of_getElem? (i := 239) rfl) rfl
theorem wd_6_0 : Cond.fieldLink RX11 123 "TurnShiftsModel" "orders" "I" ∈ gw := tg_6 (List.mem_of_getElem? (i := 0) rfl) rfl
theorem wd_6_1 : Cond.fieldLink RX11 117 "TurnShiftsModel" "value" "I" ∈ gw := tg_6 (List.mem_of_getElem? (i := 1) rfl) rfl
theorem wd_6_2 : Cond.fieldLink RX11 192 "TurnShiftsModel" "width" "[I" ∈ gw := tg_6 (List.mem_of_getElem? (i := 2) rfl) rfl
theorem wd_6_3 : Cond.fieldLink RX11 194 "TurnShiftsModel" "guard" "[I" ∈ gw := tg_6 (List.mem_of_getElem? (i := 3) rfl) rfl
theorem wd_6_4 : Cond.fieldLink RX11 173 "TurnShiftsModel" "points" "[I" ∈ gw := tg_6 (List.mem_of_getElem? (i := 4) rfl) rfl
theorem wd_6_5 : Cond.fieldLink RX11 171 "TurnShiftsModel" "stages" "[I" ∈ gw := tg_6 (List.mem_of_getElem? (i := 5) rfl) rfl
theorem wd_6_6 : Cond.fieldLink RX11 183 "TurnShiftsModel" "gain" "[I" ∈ gw := tg_6 (List.mem_of_getElem? (i := 6) rfl) rfl
theorem wd_6_7 : Cond.fieldLink RX11 186 "TurnShiftsModel" "undo" "[I" ∈ gw := tg_6 (List.mem_of_getElem? (i := 7) rfl) rfl
theorem wd_6_8 : Cond.fieldLink RX11 196 "TurnShiftsModel" "near" "[Z" ∈ gw := tg_6 (List.mem_of_getElem? (i := 8) rfl) rfl
theorem wd_6_9 : Cond.fieldLink RX11 199 "TurnShiftsModel" "quarter" "[J" ∈ gw := tg_6 (List.mem_of_getElem? (i := 9) rfl) rfl
theorem wd_6_10 : Cond.fieldLink RX11 203 "TurnShiftsModel" "ln" "[J" ∈ gw := tg_6 (List.mem_of_getElem? (i := 10) rfl) rfl
theorem wd_6_11 : Cond.fieldLink RX11 208 "TurnShiftsModel" "angle" "[J" ∈ gw := tg_6 (List.mem_of_getElem? (i := 11) rfl) rfl
theorem wd_6_12 : Cond.fieldLink RX11 154 "TurnShiftsModel" "shift" "[I" ∈ gw := tg_6 (List.mem_of_getElem? (i := 12) rfl) rfl
theorem wd_6_13 : Cond.fieldLink RX11 189 "TurnShiftsModel" "digit" "[I" ∈ gw := tg_6 (List.mem_of_getElem? (i := 13) rfl) rfl
theorem wd_6_14 : Cond.fieldLink RX11 260 "TurnShiftsModel" "hasUnit" "Z" ∈ gw := tg_6 (List.mem_of_getElem? (i := 14) rfl) rfl
theorem wd_6_15 : Cond.fieldLink RX11 264 "TurnShiftsModel" "places" "I" ∈ gw := tg_6 (List.mem_of_getElem? (i := 15) rfl) rfl
theorem wd_6_16 : Cond.fieldLink RX11 267 "TurnShiftsModel" "clocks" "I" ∈ gw := tg_6 (List.mem_of_getElem? (i := 16) rfl) rfl
theorem wd_6_17 : Cond.fieldLink RX11 270 "TurnShiftsModel" "held" "Z" ∈ gw := tg_6 (List.mem_of_getElem? (i := 17) rfl) rfl
theorem wd_6_18 : Cond.fieldLink RX11 223 "TurnShiftsModel" "refused" "[I" ∈ gw := tg_6 (List.mem_of_getElem? (i := 18) rfl) rfl
theorem wd_6_19 : Cond.fieldLink RX11 344 "TurnShiftsModel" "x" "J" ∈ gw := tg_6 (List.mem_of_getElem? (i := 19) rfl) rfl
theorem wd_6_20 : Cond.fieldLink RX11 334 "TurnShiftsModel" "y" "J" ∈ gw := tg_6 (List.mem_of_getElem? (i := 20) rfl) rfl
theorem wd_6_21 : Cond.fieldLink RX11 331 "TurnShiftsModel" "z" "J" ∈ gw := tg_6 (List.mem_of_getElem? (i := 21) rfl) rfl
theorem wd_6_22 : Cond.fieldLink RX11 324 "TurnShiftsModel" "first" "J" ∈ gw := tg_6 (List.mem_of_getElem? (i := 22) rfl) rfl
theorem wd_6_23 : Cond.fieldLink RX11 328 "TurnShiftsModel" "second" "J" ∈ gw := tg_6 (List.mem_of_getElem? (i := 23) rfl) rfl
theorem wd_6_24 : Cond.fieldLink RX11 337 "TurnShiftsModel" "aside" "I" ∈ gw := tg_6 (List.mem_of_getElem? (i := 24) rfl) rfl
theorem wd_6_25 : Cond.fieldLink RX11 226 "TurnShiftsModel" "job" "[I" ∈ gw := tg_6 (List.mem_of_getElem? (i := 25) rfl) rfl
theorem wd_6_26 : Cond.fieldLink RX11 229 "TurnShiftsModel" "jobKept" "[I" ∈ gw := tg_6 (List.mem_of_getElem? (i := 26) rfl) rfl
theorem wd_6_27 : Cond.fieldLink RX11 232 "TurnShiftsModel" "result" "[I" ∈ gw := tg_6 (List.mem_of_getElem? (i := 27) rfl) rfl
theorem wd_6_28 : Cond.fieldLink RX11 235 "TurnShiftsModel" "resultKept" "[I" ∈ gw := tg_6 (List.mem_of_getElem? (i := 28) rfl) rfl
theorem wd_6_29 : Cond.fieldLink RX11 238 "TurnShiftsModel" "trace" "[J" ∈ gw := tg_6 (List.mem_of_getElem? (i := 29) rfl) rfl
theorem wd_6_30 : Cond.fieldLink RX11 241 "TurnShiftsModel" "traceKept" "[J" ∈ gw := tg_6 (List.mem_of_getElem? (i := 30) rfl) rfl
theorem wd_6_31 : Cond.fieldLink RX11 273 "TurnShiftsModel" "jobs" "I" ∈ gw := tg_6 (List.mem_of_getElem? (i := 31) rfl) rfl
theorem wd_6_32 : Cond.fieldLink RX11 244 "TurnShiftsModel" "jobImage" "[I" ∈ gw := tg_6 (List.mem_of_getElem? (i := 32) rfl) rfl
theorem wd_6_33 : Cond.fieldLink RX11 247 "TurnShiftsModel" "resultImage" "[I" ∈ gw := tg_6 (List.mem_of_getElem? (i := 33) rfl) rfl
theorem wd_6_34 : Cond.fieldLink RX11 250 "TurnShiftsModel" "traceImage" "[J" ∈ gw := tg_6 (List.mem_of_getElem? (i := 34) rfl) rfl
theorem wd_6_35 : Cond.fieldLink RX11 478 "TurnShiftsModel" "jobsImage" "I" ∈ gw := tg_6 (List.mem_of_getElem? (i := 35) rfl) rfl
theorem wd_6_36 : Cond.fieldLink RX11 481 "TurnShiftsModel" "clocksImage" "I" ∈ gw := tg_6 (List.mem_of_getElem? (i := 36) rfl) rfl
theorem wd_6_37 : Cond.fieldLink RX11 484 "TurnShiftsModel" "heldImage" "Z" ∈ gw := tg_6 (List.mem_of_getElem? (i := 37) rfl) rfl
theorem wd_6_38 : Cond.fieldLink RX11 276 "TurnShiftsModel" "hasImage" "Z" ∈ gw := tg_6 (List.mem_of_getElem? (i := 38) rfl) rfl
theorem wd_6_39 : Cond.lays RX11 "TurnShiftsModel" "thrown" "I" ∈ gw := tg_6 (List.mem_of_getElem? (i := 39) rfl) rfl
theorem wd_6_41 : Cond.laysFinal RX11 "TurnShiftsModel" "tape" "[B" ∈ gw := tg_6 (List.mem_of_getElem? (i := 41) rfl) rfl
theorem wd_6_43 : Cond.lays RX11 "TurnShiftsModel" "length" "I" ∈ gw := tg_6 (List.mem_of_getElem? (i := 43) rfl) rfl
theorem wd_6_45 : Cond.lays RX11 "TurnShiftsModel" "at" "I" ∈ gw := tg_6 (List.mem_of_getElem? (i := 45) rfl) rfl
theorem wd_6_47 : Cond.lays RX11 "TurnShiftsModel" "fault" "I" ∈ gw := tg_6 (List.mem_of_getElem? (i := 47) rfl) rfl
theorem wd_6_49 : Cond.laysFinal RX11 "TurnShiftsModel" "read" "[I" ∈ gw := tg_6 (List.mem_of_getElem? (i := 49) rfl) rfl
theorem wd_6_51 : Cond.lays RX11 "TurnShiftsModel" "toldWords" "I" ∈ gw := tg_6 (List.mem_of_getElem? (i := 51) rfl) rfl
theorem wd_6_53 : Cond.laysFinal RX11 "TurnShiftsModel" "order" "[I" ∈ gw := tg_6 (List.mem_of_getElem? (i := 53) rfl) rfl
theorem wd_6_55 : Cond.lays RX11 "TurnShiftsModel" "orders" "I" ∈ gw := tg_6 (List.mem_of_getElem? (i := 55) rfl) rfl
theorem wd_6_57 : Cond.lays RX11 "TurnShiftsModel" "value" "I" ∈ gw := tg_6 (List.mem_of_getElem? (i := 57) rfl) rfl
theorem wd_6_59 : Cond.laysFinal RX11 "TurnShiftsModel" "width" "[I" ∈ gw := tg_6 (List.mem_of_getElem? (i := 59) rfl) rfl
theorem wd_6_61 : Cond.laysFinal RX11 "TurnShiftsModel" "guard" "[I" ∈ gw := tg_6 (List.mem_of_getElem? (i := 61) rfl) rfl
theorem wd_6_63 : Cond.laysFinal RX11 "TurnShiftsModel" "points" "[I" ∈ gw := tg_6 (List.mem_of_getElem? (i := 63) rfl) rfl
theorem wd_6_65 : Cond.laysFinal RX11 "TurnShiftsModel" "stages" "[I" ∈ gw := tg_6 (List.mem_of_getElem? (i := 65) rfl) rfl
theorem wd_6_67 : Cond.laysFinal RX11 "TurnShiftsModel" "gain" "[I" ∈ gw := tg_6 (List.mem_of_getElem? (i := 67) rfl) rfl
theorem wd_6_69 : Cond.laysFinal RX11 "TurnShiftsModel" "undo" "[I" ∈ gw := tg_6 (List.mem_of_getElem? (i := 69) rfl) rfl
theorem wd_6_71 : Cond.laysFinal RX11 "TurnShiftsModel" "near" "[Z" ∈ gw := tg_6 (List.mem_of_getElem? (i := 71) rfl) rfl
theorem wd_6_73 : Cond.laysFinal RX11 "TurnShiftsModel" "quarter" "[J" ∈ gw := tg_6 (List.mem_of_getElem? (i := 73) rfl) rfl
theorem wd_6_75 : Cond.laysFinal RX11 "TurnShiftsModel" "ln" "[J" ∈ gw := tg_6 (List.mem_of_getElem? (i := 75) rfl) rfl
theorem wd_6_77 : Cond.laysFinal RX11 "TurnShiftsModel" "angle" "[J" ∈ gw := tg_6 (List.mem_of_getElem? (i := 77) rfl) rfl
theorem wd_6_79 : Cond.laysFinal RX11 "TurnShiftsModel" "shift" "[I" ∈ gw := tg_6 (List.mem_of_getElem? (i := 79) rfl) rfl
theorem wd_6_81 : Cond.laysFinal RX11 "TurnShiftsModel" "digit" "[I" ∈ gw := tg_6 (List.mem_of_getElem? (i := 81) rfl) rfl
theorem wd_6_83 : Cond.lays RX11 "TurnShiftsModel" "hasUnit" "Z" ∈ gw := tg_6 (List.mem_of_getElem? (i := 83) rfl) rfl
theorem wd_6_85 : Cond.lays RX11 "TurnShiftsModel" "places" "I" ∈ gw := tg_6 (List.mem_of_getElem? (i := 85) rfl) rfl
theorem wd_6_87 : Cond.lays RX11 "TurnShiftsModel" "clocks" "I" ∈ gw := tg_6 (List.mem_of_getElem? (i := 87) rfl) rfl
theorem wd_6_89 : Cond.lays RX11 "TurnShiftsModel" "held" "Z" ∈ gw := tg_6 (List.mem_of_getElem? (i := 89) rfl) rfl
theorem wd_6_91 : Cond.laysFinal RX11 "TurnShiftsModel" "refused" "[I" ∈ gw := tg_6 (List.mem_of_getElem? (i := 91) rfl) rfl
theorem wd_6_93 : Cond.lays RX11 "TurnShiftsModel" "x" "J" ∈ gw := tg_6 (List.mem_of_getElem? (i := 93) rfl) rfl
theorem wd_6_95 : Cond.lays RX11 "TurnShiftsModel" "y" "J" ∈ gw := tg_6 (List.mem_of_getElem? (i := 95) rfl) rfl
theorem wd_6_97 : Cond.lays RX11 "TurnShiftsModel" "z" "J" ∈ gw := tg_6 (List.mem_of_getElem? (i := 97) rfl) rfl
theorem wd_6_99 : Cond.lays RX11 "TurnShiftsModel" "first" "J" ∈ gw := tg_6 (List.mem_of_getElem? (i := 99) rfl) rfl
theorem wd_6_101 : Cond.lays RX11 "TurnShiftsModel" "second" "J" ∈ gw := tg_6 (List.mem_of_getElem? (i := 101) rfl) rfl
theorem wd_6_103 : Cond.lays RX11 "TurnShiftsModel" "aside" "I" ∈ gw := tg_6 (List.mem_of_getElem? (i := 103) rfl) rfl
theorem wd_6_105 : Cond.laysFinal RX11 "TurnShiftsModel" "job" "[I" ∈ gw := tg_6 (List.mem_of_getElem? (i := 105) rfl) rfl
theorem wd_6_107 : Cond.laysFinal RX11 "TurnShiftsModel" "jobKept" "[I" ∈ gw := tg_6 (List.mem_of_getElem? (i := 107) rfl) rfl
theorem wd_6_109 : Cond.laysFinal RX11 "TurnShiftsModel" "result" "[I" ∈ gw := tg_6 (List.mem_of_getElem? (i := 109) rfl) rfl
theorem wd_6_111 : Cond.laysFinal RX11 "TurnShiftsModel" "resultKept" "[I" ∈ gw := tg_6 (List.mem_of_getElem? (i := 111) rfl) rfl
theorem wd_6_113 : Cond.laysFinal RX11 "TurnShiftsModel" "trace" "[J" ∈ gw := tg_6 (List.mem_of_getElem? (i := 113) rfl) rfl
theorem wd_6_115 : Cond.laysFinal RX11 "TurnShiftsModel" "traceKept" "[J" ∈ gw := tg_6 (List.mem_of_getElem? (i := 115) rfl) rfl
theorem wd_6_117 : Cond.lays RX11 "TurnShiftsModel" "jobs" "I" ∈ gw := tg_6 (List.mem_of_getElem? (i := 117) rfl) rfl
theorem wd_6_119 : Cond.laysFinal RX11 "TurnShiftsModel" "jobImage" "[I" ∈ gw := tg_6 (List.mem_of_getElem? (i := 119) rfl) rfl
theorem wd_6_121 : Cond.laysFinal RX11 "TurnShiftsModel" "resultImage" "[I" ∈ gw := tg_6 (List.mem_of_getElem? (i := 121) rfl) rfl
theorem wd_6_123 : Cond.laysFinal RX11 "TurnShiftsModel" "traceImage" "[J" ∈ gw := tg_6 (List.mem_of_getElem? (i := 123) rfl) rfl
theorem wd_6_125 : Cond.lays RX11 "TurnShiftsModel" "jobsImage" "I" ∈ gw := tg_6 (List.mem_of_getElem? (i := 125) rfl) rfl
theorem wd_6_127 : Cond.lays RX11 "TurnShiftsModel" "clocksImage" "I" ∈ gw := tg_6 (List.mem_of_getElem? (i := 127) rfl) rfl
theorem wd_6_129 : Cond.lays RX11 "TurnShiftsModel" "heldImage" "Z" ∈ gw := tg_6 (List.mem_of_getElem? (i := 129) rfl) rfl
theorem wd_6_131 : Cond.lays RX11 "TurnShiftsModel" "hasImage" "Z" ∈ gw := tg_6 (List.mem_of_getElem? (i := 131) rfl) rfl
theorem wd_6_135 : Cond.methodLink RL 38 yX11_unit ∈ gw := tg_6 (List.mem_of_getElem? (i := 135) rfl) rfl
theorem wd_6_136 : Cond.instanceMethod yX11_unit ∈ gw := tg_6 (List.mem_of_getElem? (i := 136) rfl) rfl
theorem wd_6_137 : Cond.selects RX11 yX11_unit yX11_unit ∈ gw := tg_6 (List.mem_of_getElem? (i := 137) rfl) rfl
theorem wd_6_138 : Cond.code yX11_unit cX11_unit 1 (some .int) ∈ gw := tg_6 (List.mem_of_getElem? (i := 138) rfl) rfl
theorem wd_6_139 : Cond.methodLink RL 46 yX11_constant ∈ gw := tg_6 (List.mem_of_getElem? (i := 139) rfl) rfl
theorem wd_6_140 : Cond.instanceMethod yX11_constant ∈ gw := tg_6 (List.mem_of_getElem? (i := 140) rfl) rfl
theorem wd_6_141 : Cond.selects RX11 yX11_constant yX11_constant ∈ gw := tg_6 (List.mem_of_getElem? (i := 141) rfl) rfl
theorem wd_6_142 : Cond.code yX11_constant cX11_constant 2 (some .int) ∈ gw := tg_6 (List.mem_of_getElem? (i := 142) rfl) rfl
theorem wd_6_143 : Cond.methodLink RL 51 yX11_stage ∈ gw := tg_6 (List.mem_of_getElem? (i := 143) rfl) rfl
theorem wd_6_144 : Cond.instanceMethod yX11_stage ∈ gw := tg_6 (List.mem_of_getElem? (i := 144) rfl) rfl
theorem wd_6_145 : Cond.selects RX11 yX11_stage yX11_stage ∈ gw := tg_6 (List.mem_of_getElem? (i := 145) rfl) rfl
theorem wd_6_146 : Cond.code yX11_stage cX11_stage 4 (some .int) ∈ gw := tg_6 (List.mem_of_getElem? (i := 146) rfl) rfl
theorem wd_6_147 : Cond.methodLink RX11 279 yX11_isMode ∈ gw := tg_6 (List.mem_of_getElem? (i := 147) rfl) rfl
theorem wd_6_149 : Cond.instanceMethod yX11_isMode ∈ gw := tg_6 (List.mem_of_getElem? (i := 149) rfl) rfl
theorem wd_6_150 : Cond.code yX11_isMode cX11_isMode 2 (some .boolean) ∈ gw := tg_6 (List.mem_of_getElem? (i := 150) rfl) rfl
theorem wd_6_151 : Cond.methodLink RX11 282 yX11_isWordless ∈ gw := tg_6 (List.mem_of_getElem? (i := 151) rfl) rfl
theorem wd_6_153 : Cond.instanceMethod yX11_isWordless ∈ gw := tg_6 (List.mem_of_getElem? (i := 153) rfl) rfl
theorem wd_6_154 : Cond.code yX11_isWordless cX11_isWordless 4 (some .boolean) ∈ gw := tg_6 (List.mem_of_getElem? (i := 154) rfl) rfl
theorem wd_6_155 : Cond.methodLink RL 55 yX11_mode ∈ gw := tg_6 (List.mem_of_getElem? (i := 155) rfl) rfl
theorem wd_6_156 : Cond.instanceMethod yX11_mode ∈ gw := tg_6 (List.mem_of_getElem? (i := 156) rfl) rfl
theorem wd_6_157 : Cond.selects RX11 yX11_mode yX11_mode ∈ gw := tg_6 (List.mem_of_getElem? (i := 157) rfl) rfl
theorem wd_6_158 : Cond.code yX11_mode cX11_mode 3 (some .int) ∈ gw := tg_6 (List.mem_of_getElem? (i := 158) rfl) rfl
theorem wd_6_159 : Cond.methodLink RX11 286 yX11_digitsIn ∈ gw := tg_6 (List.mem_of_getElem? (i := 159) rfl) rfl
theorem wd_6_161 : Cond.instanceMethod yX11_digitsIn ∈ gw := tg_6 (List.mem_of_getElem? (i := 161) rfl) rfl
theorem wd_6_162 : Cond.code yX11_digitsIn cX11_digitsIn 4 (some .int) ∈ gw := tg_6 (List.mem_of_getElem? (i := 162) rfl) rfl
theorem wd_6_163 : Cond.methodLink RX11 289 yX11_words ∈ gw := tg_6 (List.mem_of_getElem? (i := 163) rfl) rfl
theorem wd_6_165 : Cond.instanceMethod yX11_words ∈ gw := tg_6 (List.mem_of_getElem? (i := 165) rfl) rfl
theorem wd_6_166 : Cond.code yX11_words cX11_words 6 (some .int) ∈ gw := tg_6 (List.mem_of_getElem? (i := 166) rfl) rfl
theorem wd_6_167 : Cond.methodLink RX11 292 yX11_wordlessFrom ∈ gw := tg_6 (List.mem_of_getElem? (i := 167) rfl) rfl
theorem wd_6_169 : Cond.instanceMethod yX11_wordlessFrom ∈ gw := tg_6 (List.mem_of_getElem? (i := 169) rfl) rfl
theorem wd_6_170 : Cond.code yX11_wordlessFrom cX11_wordlessFrom 3 (some .int) ∈ gw := tg_6 (List.mem_of_getElem? (i := 170) rfl) rfl
theorem wd_6_171 : Cond.methodLink RL 59 yX11_digit ∈ gw := tg_6 (List.mem_of_getElem? (i := 171) rfl) rfl
theorem wd_6_172 : Cond.instanceMethod yX11_digit ∈ gw := tg_6 (List.mem_of_getElem? (i := 172) rfl) rfl
theorem wd_6_173 : Cond.selects RX11 yX11_digit yX11_digit ∈ gw := tg_6 (List.mem_of_getElem? (i := 173) rfl) rfl
theorem wd_6_174 : Cond.code yX11_digit cX11_digit 3 (some .int) ∈ gw := tg_6 (List.mem_of_getElem? (i := 174) rfl) rfl
theorem wd_6_175 : Cond.constantLong RX11 295 31 ∈ gw := tg_6 (List.mem_of_getElem? (i := 175) rfl) rfl
theorem wd_6_176 : Cond.constant RX11 297 (-2147483648) ∈ gw := tg_6 (List.mem_of_getElem? (i := 176) rfl) rfl
theorem wd_6_177 : Cond.methodLink RL 63 yX11_takenOut_ ∈ gw := tg_6 (List.mem_of_getElem? (i := 177) rfl) rfl
theorem wd_6_178 : Cond.instanceMethod yX11_takenOut_ ∈ gw := tg_6 (List.mem_of_getElem? (i := 178) rfl) rfl
theorem wd_6_179 : Cond.selects RX11 yX11_takenOut_ yX11_takenOut_ ∈ gw := tg_6 (List.mem_of_getElem? (i := 179) rfl) rfl
theorem wd_6_180 : Cond.code yX11_takenOut_ cX11_takenOut_ 3 (some .int) ∈ gw := tg_6 (List.mem_of_getElem? (i := 180) rfl) rfl
theorem wd_6_181 : Cond.constantLong RX11 302 (-536870912) ∈ gw := tg_6 (List.mem_of_getElem? (i := 181) rfl) rfl
theorem wd_6_182 : Cond.constantLong RX11 304 536870912 ∈ gw := tg_6 (List.mem_of_getElem? (i := 182) rfl) rfl
theorem wd_6_183 : Cond.methodLink RX11 306 yX11_takenOut ∈ gw := tg_6 (List.mem_of_getElem? (i := 183) rfl) rfl
theorem wd_6_185 : Cond.instanceMethod yX11_takenOut ∈ gw := tg_6 (List.mem_of_getElem? (i := 185) rfl) rfl
theorem wd_6_186 : Cond.code yX11_takenOut cX11_takenOut 11 (some .long) ∈ gw := tg_6 (List.mem_of_getElem? (i := 186) rfl) rfl
theorem wd_6_187 : Cond.methodLink RX11 298 yX11_shifted ∈ gw := tg_6 (List.mem_of_getElem? (i := 187) rfl) rfl
theorem wd_6_189 : Cond.instanceMethod yX11_shifted ∈ gw := tg_6 (List.mem_of_getElem? (i := 189) rfl) rfl
theorem wd_6_190 : Cond.code yX11_shifted cX11_shifted 5 (some .long) ∈ gw := tg_6 (List.mem_of_getElem? (i := 190) rfl) rfl
theorem wd_6_191 : Cond.methodLink RL 67 yX11_value ∈ gw := tg_6 (List.mem_of_getElem? (i := 191) rfl) rfl
theorem wd_6_192 : Cond.instanceMethod yX11_value ∈ gw := tg_6 (List.mem_of_getElem? (i := 192) rfl) rfl
theorem wd_6_193 : Cond.selects RX11 yX11_value yX11_value ∈ gw := tg_6 (List.mem_of_getElem? (i := 193) rfl) rfl
theorem wd_6_194 : Cond.code yX11_value cX11_value 6 (some .int) ∈ gw := tg_6 (List.mem_of_getElem? (i := 194) rfl) rfl
theorem wd_6_195 : Cond.methodLink RX11 391 yX11_isKind ∈ gw := tg_6 (List.mem_of_getElem? (i := 195) rfl) rfl
theorem wd_6_197 : Cond.instanceMethod yX11_isKind ∈ gw := tg_6 (List.mem_of_getElem? (i := 197) rfl) rfl
theorem wd_6_198 : Cond.code yX11_isKind cX11_isKind 2 (some .boolean) ∈ gw := tg_6 (List.mem_of_getElem? (i := 198) rfl) rfl
theorem wd_6_199 : Cond.constantLong RX11 389 8 ∈ gw := tg_6 (List.mem_of_getElem? (i := 199) rfl) rfl
theorem wd_6_200 : Cond.methodLink RX11 394 yX11_comes ∈ gw := tg_6 (List.mem_of_getElem? (i := 200) rfl) rfl
theorem wd_6_202 : Cond.instanceMethod yX11_comes ∈ gw := tg_6 (List.mem_of_getElem? (i := 202) rfl) rfl
theorem wd_6_203 : Cond.code yX11_comes cX11_comes 11 (some .boolean) ∈ gw := tg_6 (List.mem_of_getElem? (i := 203) rfl) rfl
theorem wd_6_204 : Cond.methodLink RX11 374 yX11_isGood ∈ gw := tg_6 (List.mem_of_getElem? (i := 204) rfl) rfl
theorem wd_6_206 : Cond.instanceMethod yX11_isGood ∈ gw := tg_6 (List.mem_of_getElem? (i := 206) rfl) rfl
theorem wd_6_207 : Cond.code yX11_isGood cX11_isGood 10 (some .boolean) ∈ gw := tg_6 (List.mem_of_getElem? (i := 207) rfl) rfl
theorem wd_6_208 : Cond.methodLink RX11 310 yX11_isTo ∈ gw := tg_6 (List.mem_of_getElem? (i := 208) rfl) rfl
theorem wd_6_209 : Cond.static yX11_isTo ∈ gw := tg_6 (List.mem_of_getElem? (i := 209) rfl) rfl
theorem wd_6_210 : Cond.code yX11_isTo cX11_isTo 3 (some .boolean) ∈ gw := tg_6 (List.mem_of_getElem? (i := 210) rfl) rfl
theorem wd_6_211 : Cond.methodLink RX11 314 yJ9_abs_067f4 ∈ gw := tg_6 (List.mem_of_getElem? (i := 211) rfl) rfl
theorem wd_6_212 : Cond.methodLink RX11 378 yX11_begins ∈ gw := tg_6 (List.mem_of_getElem? (i := 212) rfl) rfl
theorem wd_6_214 : Cond.instanceMethod yX11_begins ∈ gw := tg_6 (List.mem_of_getElem? (i := 214) rfl) rfl
theorem wd_6_215 : Cond.code yX11_begins cX11_begins 14 none ∈ gw := tg_6 (List.mem_of_getElem? (i := 215) rfl) rfl
theorem wd_6_216 : Cond.methodLink RX11 340 yX11_quarters ∈ gw := tg_6 (List.mem_of_getElem? (i := 216) rfl) rfl
theorem wd_6_218 : Cond.instanceMethod yX11_quarters ∈ gw := tg_6 (List.mem_of_getElem? (i := 218) rfl) rfl
theorem wd_6_219 : Cond.code yX11_quarters cX11_quarters 4 (some .int) ∈ gw := tg_6 (List.mem_of_getElem? (i := 219) rfl) rfl
theorem wd_6_220 : Cond.methodLink RX11 320 yJ9_floorDiv_f86c9 ∈ gw := tg_6 (List.mem_of_getElem? (i := 220) rfl) rfl
theorem wd_6_221 : Cond.constantLong RX11 347 (-2) ∈ gw := tg_6 (List.mem_of_getElem? (i := 221) rfl) rfl
theorem wd_6_222 : Cond.methodLink RX11 349 yX11_bitsOf ∈ gw := tg_6 (List.mem_of_getElem? (i := 222) rfl) rfl
theorem wd_6_223 : Cond.static yX11_bitsOf ∈ gw := tg_6 (List.mem_of_getElem? (i := 223) rfl) rfl
theorem wd_6_224 : Cond.code yX11_bitsOf cX11_bitsOf 3 (some .int) ∈ gw := tg_6 (List.mem_of_getElem? (i := 224) rfl) rfl
theorem wd_6_225 : Cond.methodLink RX11 353 yX11_moved ∈ gw := tg_6 (List.mem_of_getElem? (i := 225) rfl) rfl
theorem wd_6_227 : Cond.instanceMethod yX11_moved ∈ gw := tg_6 (List.mem_of_getElem? (i := 227) rfl) rfl
theorem wd_6_228 : Cond.code yX11_moved cX11_moved 5 (some .long) ∈ gw := tg_6 (List.mem_of_getElem? (i := 228) rfl) rfl
theorem wd_6_229 : Cond.methodLink RX11 356 yJ9_floorDiv_7cf53 ∈ gw := tg_6 (List.mem_of_getElem? (i := 229) rfl) rfl
theorem wd_6_230 : Cond.static yJ9_floorDiv_7cf53 ∈ gw := tg_6 (List.mem_of_getElem? (i := 230) rfl) rfl
theorem wd_6_231 : Cond.code yJ9_floorDiv_7cf53 cJ9_floorDiv_7cf53 3 (some .int) ∈ gw := tg_6 (List.mem_of_getElem? (i := 231) rfl) rfl
theorem wd_6_232 : Cond.methodLink RX11 358 yX11_turns ∈ gw := tg_6 (List.mem_of_getElem? (i := 232) rfl) rfl
theorem wd_6_234 : Cond.instanceMethod yX11_turns ∈ gw := tg_6 (List.mem_of_getElem? (i := 234) rfl) rfl
theorem wd_6_235 : Cond.code yX11_turns cX11_turns 7 none ∈ gw := tg_6 (List.mem_of_getElem? (i := 235) rfl) rfl
theorem wd_6_236 : Cond.methodLink RX11 382 yX11_steps ∈ gw := tg_6 (List.mem_of_getElem? (i := 236) rfl) rfl
theorem wd_6_238 : Cond.instanceMethod yX11_steps ∈ gw := tg_6 (List.mem_of_getElem? (i := 238) rfl) rfl
theorem wd_6_239 : Cond.code yX11_steps cX11_steps 13 (some .boolean) ∈ gw := tg_6 (List.mem_of_getElem? (i := 239) rfl) rfl
theorem wd_7_0 : Cond.fieldLink RX11 362 "TurnShiftsModel" "MODE_OF" "[I" ∈ gw := tg_7 (List.mem_of_getElem? (i := 0) rfl) rfl
theorem wd_7_2 : Cond.methodLink RX11 365 yX11_isTurning ∈ gw := tg_7 (List.mem_of_getElem? (i := 2) rfl) rfl
theorem wd_7_3 : Cond.static yX11_isTurning ∈ gw := tg_7 (List.mem_of_getElem? (i := 3) rfl) rfl
theorem wd_7_4 : Cond.code yX11_isTurning cX11_isTurning 1 (some .boolean) ∈ gw := tg_7 (List.mem_of_getElem? (i := 4) rfl) rfl
theorem wd_7_5 : Cond.constantLong RX11 368 (-1) ∈ gw := tg_7 (List.mem_of_getElem? (i := 5) rfl) rfl
theorem wd_7_6 : Cond.methodLink RX11 386 yX11_ends ∈ gw := tg_7 (List.mem_of_getElem? (i := 6) rfl) rfl
theorem wd_7_8 : Cond.instanceMethod yX11_ends ∈ gw := tg_7 (List.mem_of_getElem? (i := 8) rfl) rfl
theorem wd_7_9 : Cond.code yX11_ends cX11_ends 3 none ∈ gw := tg_7 (List.mem_of_getElem? (i := 9) rfl) rfl
theorem wd_7_10 : Cond.methodLink RX11 370 yX11_out ∈ gw := tg_7 (List.mem_of_getElem? (i := 10) rfl) rfl
theorem wd_7_12 : Cond.instanceMethod yX11_out ∈ gw := tg_7 (List.mem_of_getElem? (i := 12) rfl) rfl
theorem wd_7_13 : Cond.code yX11_out cX11_out 4 (some .long) ∈ gw := tg_7 (List.mem_of_getElem? (i := 13) rfl) rfl
theorem wd_7_14 : Cond.methodLink RL 140 yX11_finest ∈ gw := tg_7 (List.mem_of_getElem? (i := 14) rfl) rfl
theorem wd_7_15 : Cond.instanceMethod yX11_finest ∈ gw := tg_7 (List.mem_of_getElem? (i := 15) rfl) rfl
theorem wd_7_16 : Cond.selects RX11 yX11_finest yX11_finest ∈ gw := tg_7 (List.mem_of_getElem? (i := 16) rfl) rfl
theorem wd_7_17 : Cond.code yX11_finest cX11_finest 7 (some .int) ∈ gw := tg_7 (List.mem_of_getElem? (i := 17) rfl) rfl
theorem wd_7_18 : Cond.methodLink RL 145 yX11_apart ∈ gw := tg_7 (List.mem_of_getElem? (i := 18) rfl) rfl
theorem wd_7_19 : Cond.instanceMethod yX11_apart ∈ gw := tg_7 (List.mem_of_getElem? (i := 19) rfl) rfl
theorem wd_7_20 : Cond.selects RX11 yX11_apart yX11_apart ∈ gw := tg_7 (List.mem_of_getElem? (i := 20) rfl) rfl
theorem wd_7_21 : Cond.code yX11_apart cX11_apart 9 (some .long) ∈ gw := tg_7 (List.mem_of_getElem? (i := 21) rfl) rfl
theorem wd_7_22 : Cond.constantLong RX11 397 (-2147483648) ∈ gw := tg_7 (List.mem_of_getElem? (i := 22) rfl) rfl
theorem wd_7_23 : Cond.methodLink RL 153 yX11_sweep ∈ gw := tg_7 (List.mem_of_getElem? (i := 23) rfl) rfl
theorem wd_7_24 : Cond.instanceMethod yX11_sweep ∈ gw := tg_7 (List.mem_of_getElem? (i := 24) rfl) rfl
theorem wd_7_25 : Cond.selects RX11 yX11_sweep yX11_sweep ∈ gw := tg_7 (List.mem_of_getElem? (i := 25) rfl) rfl
theorem wd_7_26 : Cond.code yX11_sweep cX11_sweep 23 (some .long) ∈ gw := tg_7 (List.mem_of_getElem? (i := 26) rfl) rfl
theorem wd_7_27 : Cond.constantLong RX11 399 200 ∈ gw := tg_7 (List.mem_of_getElem? (i := 27) rfl) rfl
theorem wd_7_28 : Cond.constantLong RX11 403 (-9223372036854775808) ∈ gw := tg_7 (List.mem_of_getElem? (i := 28) rfl) rfl
theorem wd_7_29 : Cond.methodLink RL 71 yX11_off ∈ gw := tg_7 (List.mem_of_getElem? (i := 29) rfl) rfl
theorem wd_7_30 : Cond.instanceMethod yX11_off ∈ gw := tg_7 (List.mem_of_getElem? (i := 30) rfl) rfl
theorem wd_7_31 : Cond.selects RX11 yX11_off yX11_off ∈ gw := tg_7 (List.mem_of_getElem? (i := 31) rfl) rfl
theorem wd_7_32 : Cond.code yX11_off cX11_off 2 (some .int) ∈ gw := tg_7 (List.mem_of_getElem? (i := 32) rfl) rfl
theorem wd_7_33 : Cond.methodLink RX11 407 yX11_hasOff ∈ gw := tg_7 (List.mem_of_getElem? (i := 33) rfl) rfl
theorem wd_7_35 : Cond.instanceMethod yX11_hasOff ∈ gw := tg_7 (List.mem_of_getElem? (i := 35) rfl) rfl
theorem wd_7_36 : Cond.code yX11_hasOff cX11_hasOff 2 (some .boolean) ∈ gw := tg_7 (List.mem_of_getElem? (i := 36) rfl) rfl
theorem wd_7_37 : Cond.methodLink RX11 410 yX11_offBy ∈ gw := tg_7 (List.mem_of_getElem? (i := 37) rfl) rfl
theorem wd_7_39 : Cond.instanceMethod yX11_offBy ∈ gw := tg_7 (List.mem_of_getElem? (i := 39) rfl) rfl
theorem wd_7_40 : Cond.code yX11_offBy cX11_offBy 8 (some .long) ∈ gw := tg_7 (List.mem_of_getElem? (i := 40) rfl) rfl
theorem wd_7_41 : Cond.constantLong RX11 405 32 ∈ gw := tg_7 (List.mem_of_getElem? (i := 41) rfl) rfl
theorem wd_7_42 : Cond.methodLink RL 149 yX11_fewest ∈ gw := tg_7 (List.mem_of_getElem? (i := 42) rfl) rfl
theorem wd_7_43 : Cond.instanceMethod yX11_fewest ∈ gw := tg_7 (List.mem_of_getElem? (i := 43) rfl) rfl
theorem wd_7_44 : Cond.selects RX11 yX11_fewest yX11_fewest ∈ gw := tg_7 (List.mem_of_getElem? (i := 44) rfl) rfl
theorem wd_7_45 : Cond.code yX11_fewest cX11_fewest 4 (some .int) ∈ gw := tg_7 (List.mem_of_getElem? (i := 45) rfl) rfl
theorem wd_7_46 : Cond.methodLink RL 76 yX11_job ∈ gw := tg_7 (List.mem_of_getElem? (i := 46) rfl) rfl
theorem wd_7_47 : Cond.instanceMethod yX11_job ∈ gw := tg_7 (List.mem_of_getElem? (i := 47) rfl) rfl
theorem wd_7_48 : Cond.selects RX11 yX11_job yX11_job ∈ gw := tg_7 (List.mem_of_getElem? (i := 48) rfl) rfl
theorem wd_7_49 : Cond.code yX11_job cX11_job 5 (some .int) ∈ gw := tg_7 (List.mem_of_getElem? (i := 49) rfl) rfl
theorem wd_7_50 : Cond.methodLink RX11 414 yX11_refuse ∈ gw := tg_7 (List.mem_of_getElem? (i := 50) rfl) rfl
theorem wd_7_52 : Cond.instanceMethod yX11_refuse ∈ gw := tg_7 (List.mem_of_getElem? (i := 52) rfl) rfl
theorem wd_7_53 : Cond.code yX11_refuse cX11_refuse 2 (some .int) ∈ gw := tg_7 (List.mem_of_getElem? (i := 53) rfl) rfl
theorem wd_7_54 : Cond.methodLink RX11 417 yX11_adds ∈ gw := tg_7 (List.mem_of_getElem? (i := 54) rfl) rfl
theorem wd_7_56 : Cond.instanceMethod yX11_adds ∈ gw := tg_7 (List.mem_of_getElem? (i := 56) rfl) rfl
theorem wd_7_57 : Cond.code yX11_adds cX11_adds 7 none ∈ gw := tg_7 (List.mem_of_getElem? (i := 57) rfl) rfl
theorem wd_7_58 : Cond.methodLink RL 80 yX11_orders ∈ gw := tg_7 (List.mem_of_getElem? (i := 58) rfl) rfl
theorem wd_7_59 : Cond.instanceMethod yX11_orders ∈ gw := tg_7 (List.mem_of_getElem? (i := 59) rfl) rfl
theorem wd_7_60 : Cond.selects RX11 yX11_orders yX11_orders ∈ gw := tg_7 (List.mem_of_getElem? (i := 60) rfl) rfl
theorem wd_7_61 : Cond.code yX11_orders cX11_orders 5 (some .int) ∈ gw := tg_7 (List.mem_of_getElem? (i := 61) rfl) rfl
theorem wd_7_62 : Cond.methodLink RX11 424 yX11_areGood ∈ gw := tg_7 (List.mem_of_getElem? (i := 62) rfl) rfl
theorem wd_7_64 : Cond.instanceMethod yX11_areGood ∈ gw := tg_7 (List.mem_of_getElem? (i := 64) rfl) rfl
theorem wd_7_65 : Cond.code yX11_areGood cX11_areGood 3 (some .boolean) ∈ gw := tg_7 (List.mem_of_getElem? (i := 65) rfl) rfl
theorem wd_7_66 : Cond.methodLink RX11 421 yX11_isLinked ∈ gw := tg_7 (List.mem_of_getElem? (i := 66) rfl) rfl
theorem wd_7_68 : Cond.instanceMethod yX11_isLinked ∈ gw := tg_7 (List.mem_of_getElem? (i := 68) rfl) rfl
theorem wd_7_69 : Cond.code yX11_isLinked cX11_isLinked 2 (some .boolean) ∈ gw := tg_7 (List.mem_of_getElem? (i := 69) rfl) rfl
theorem wd_7_70 : Cond.methodLink RL 84 yX11_drop ∈ gw := tg_7 (List.mem_of_getElem? (i := 70) rfl) rfl
theorem wd_7_71 : Cond.instanceMethod yX11_drop ∈ gw := tg_7 (List.mem_of_getElem? (i := 71) rfl) rfl
theorem wd_7_72 : Cond.selects RX11 yX11_drop yX11_drop ∈ gw := tg_7 (List.mem_of_getElem? (i := 72) rfl) rfl
theorem wd_7_73 : Cond.code yX11_drop cX11_drop 4 (some .boolean) ∈ gw := tg_7 (List.mem_of_getElem? (i := 73) rfl) rfl
theorem wd_7_74 : Cond.methodLink RX11 431 yX11_isJob ∈ gw := tg_7 (List.mem_of_getElem? (i := 74) rfl) rfl
theorem wd_7_76 : Cond.instanceMethod yX11_isJob ∈ gw := tg_7 (List.mem_of_getElem? (i := 76) rfl) rfl
theorem wd_7_77 : Cond.code yX11_isJob cX11_isJob 2 (some .boolean) ∈ gw := tg_7 (List.mem_of_getElem? (i := 77) rfl) rfl
theorem wd_7_78 : Cond.methodLink RX11 428 yX11_of ∈ gw := tg_7 (List.mem_of_getElem? (i := 78) rfl) rfl
theorem wd_7_80 : Cond.instanceMethod yX11_of ∈ gw := tg_7 (List.mem_of_getElem? (i := 80) rfl) rfl
theorem wd_7_81 : Cond.code yX11_of cX11_of 3 (some .int) ∈ gw := tg_7 (List.mem_of_getElem? (i := 81) rfl) rfl
theorem wd_7_82 : Cond.methodLink RX11 434 yX11_isWanted ∈ gw := tg_7 (List.mem_of_getElem? (i := 82) rfl) rfl
theorem wd_7_84 : Cond.instanceMethod yX11_isWanted ∈ gw := tg_7 (List.mem_of_getElem? (i := 84) rfl) rfl
theorem wd_7_85 : Cond.code yX11_isWanted cX11_isWanted 4 (some .boolean) ∈ gw := tg_7 (List.mem_of_getElem? (i := 85) rfl) rfl
theorem wd_7_86 : Cond.methodLink RL 89 yX11_link ∈ gw := tg_7 (List.mem_of_getElem? (i := 86) rfl) rfl
theorem wd_7_87 : Cond.instanceMethod yX11_link ∈ gw := tg_7 (List.mem_of_getElem? (i := 87) rfl) rfl
theorem wd_7_88 : Cond.selects RX11 yX11_link yX11_link ∈ gw := tg_7 (List.mem_of_getElem? (i := 88) rfl) rfl
theorem wd_7_89 : Cond.code yX11_link cX11_link 7 (some .boolean) ∈ gw := tg_7 (List.mem_of_getElem? (i := 89) rfl) rfl
theorem wd_7_90 : Cond.methodLink RL 93 yX11_linked ∈ gw := tg_7 (List.mem_of_getElem? (i := 90) rfl) rfl
theorem wd_7_91 : Cond.instanceMethod yX11_linked ∈ gw := tg_7 (List.mem_of_getElem? (i := 91) rfl) rfl
theorem wd_7_92 : Cond.selects RX11 yX11_linked yX11_linked ∈ gw := tg_7 (List.mem_of_getElem? (i := 92) rfl) rfl
theorem wd_7_93 : Cond.code yX11_linked cX11_linked 3 (some .int) ∈ gw := tg_7 (List.mem_of_getElem? (i := 93) rfl) rfl
theorem wd_7_94 : Cond.methodLink RL 97 yX11_clock ∈ gw := tg_7 (List.mem_of_getElem? (i := 94) rfl) rfl
theorem wd_7_95 : Cond.instanceMethod yX11_clock ∈ gw := tg_7 (List.mem_of_getElem? (i := 95) rfl) rfl
theorem wd_7_96 : Cond.selects RX11 yX11_clock yX11_clock ∈ gw := tg_7 (List.mem_of_getElem? (i := 96) rfl) rfl
theorem wd_7_97 : Cond.code yX11_clock cX11_clock 4 (some .int) ∈ gw := tg_7 (List.mem_of_getElem? (i := 97) rfl) rfl
theorem wd_7_98 : Cond.constantLong RX11 458 100 ∈ gw := tg_7 (List.mem_of_getElem? (i := 98) rfl) rfl
theorem wd_7_99 : Cond.methodLink RX11 460 yX11_ticks ∈ gw := tg_7 (List.mem_of_getElem? (i := 99) rfl) rfl
theorem wd_7_101 : Cond.instanceMethod yX11_ticks ∈ gw := tg_7 (List.mem_of_getElem? (i := 101) rfl) rfl
theorem wd_7_102 : Cond.code yX11_ticks cX11_ticks 3 (some .int) ∈ gw := tg_7 (List.mem_of_getElem? (i := 102) rfl) rfl
theorem wd_7_103 : Cond.methodLink RX11 443 yX11_goesOn ∈ gw := tg_7 (List.mem_of_getElem? (i := 103) rfl) rfl
theorem wd_7_105 : Cond.instanceMethod yX11_goesOn ∈ gw := tg_7 (List.mem_of_getElem? (i := 105) rfl) rfl
theorem wd_7_106 : Cond.code yX11_goesOn cX11_goesOn 2 (some .int) ∈ gw := tg_7 (List.mem_of_getElem? (i := 106) rfl) rfl
theorem wd_7_107 : Cond.methodLink RX11 437 yX11_takes ∈ gw := tg_7 (List.mem_of_getElem? (i := 107) rfl) rfl
theorem wd_7_109 : Cond.instanceMethod yX11_takes ∈ gw := tg_7 (List.mem_of_getElem? (i := 109) rfl) rfl
theorem wd_7_110 : Cond.code yX11_takes cX11_takes 3 none ∈ gw := tg_7 (List.mem_of_getElem? (i := 110) rfl) rfl
theorem wd_7_111 : Cond.methodLink RX11 440 yX11_puts ∈ gw := tg_7 (List.mem_of_getElem? (i := 111) rfl) rfl
theorem wd_7_113 : Cond.instanceMethod yX11_puts ∈ gw := tg_7 (List.mem_of_getElem? (i := 113) rfl) rfl
theorem wd_7_114 : Cond.code yX11_puts cX11_puts 3 none ∈ gw := tg_7 (List.mem_of_getElem? (i := 114) rfl) rfl
theorem wd_7_115 : Cond.methodLink RX11 446 yX11_firstWaiting ∈ gw := tg_7 (List.mem_of_getElem? (i := 115) rfl) rfl
theorem wd_7_117 : Cond.instanceMethod yX11_firstWaiting ∈ gw := tg_7 (List.mem_of_getElem? (i := 117) rfl) rfl
theorem wd_7_118 : Cond.code yX11_firstWaiting cX11_firstWaiting 2 (some .int) ∈ gw := tg_7 (List.mem_of_getElem? (i := 118) rfl) rfl
theorem wd_7_119 : Cond.methodLink RX11 449 yX11_standsIn ∈ gw := tg_7 (List.mem_of_getElem? (i := 119) rfl) rfl
theorem wd_7_121 : Cond.instanceMethod yX11_standsIn ∈ gw := tg_7 (List.mem_of_getElem? (i := 121) rfl) rfl
theorem wd_7_122 : Cond.code yX11_standsIn cX11_standsIn 3 (some .int) ∈ gw := tg_7 (List.mem_of_getElem? (i := 122) rfl) rfl
theorem wd_7_123 : Cond.methodLink RX11 452 yX11_hangs ∈ gw := tg_7 (List.mem_of_getElem? (i := 123) rfl) rfl
theorem wd_7_125 : Cond.instanceMethod yX11_hangs ∈ gw := tg_7 (List.mem_of_getElem? (i := 125) rfl) rfl
theorem wd_7_126 : Cond.code yX11_hangs cX11_hangs 3 (some .boolean) ∈ gw := tg_7 (List.mem_of_getElem? (i := 126) rfl) rfl
theorem wd_7_127 : Cond.methodLink RX11 455 yX11_comesIn ∈ gw := tg_7 (List.mem_of_getElem? (i := 127) rfl) rfl
theorem wd_7_129 : Cond.instanceMethod yX11_comesIn ∈ gw := tg_7 (List.mem_of_getElem? (i := 129) rfl) rfl
theorem wd_7_130 : Cond.code yX11_comesIn cX11_comesIn 5 none ∈ gw := tg_7 (List.mem_of_getElem? (i := 130) rfl) rfl
theorem wd_7_131 : Cond.methodLink RL 102 yX11_hold ∈ gw := tg_7 (List.mem_of_getElem? (i := 131) rfl) rfl
theorem wd_7_132 : Cond.instanceMethod yX11_hold ∈ gw := tg_7 (List.mem_of_getElem? (i := 132) rfl) rfl
theorem wd_7_133 : Cond.selects RX11 yX11_hold yX11_hold ∈ gw := tg_7 (List.mem_of_getElem? (i := 133) rfl) rfl
theorem wd_7_134 : Cond.code yX11_hold cX11_hold 3 (some .boolean) ∈ gw := tg_7 (List.mem_of_getElem? (i := 134) rfl) rfl
theorem wd_7_135 : Cond.methodLink RL 42 yX11_rule ∈ gw := tg_7 (List.mem_of_getElem? (i := 135) rfl) rfl
theorem wd_7_136 : Cond.instanceMethod yX11_rule ∈ gw := tg_7 (List.mem_of_getElem? (i := 136) rfl) rfl
theorem wd_7_137 : Cond.selects RX11 yX11_rule yX11_rule ∈ gw := tg_7 (List.mem_of_getElem? (i := 137) rfl) rfl
theorem wd_7_138 : Cond.code yX11_rule cX11_rule 2 (some .int) ∈ gw := tg_7 (List.mem_of_getElem? (i := 138) rfl) rfl
theorem wd_7_139 : Cond.methodLink RX11 463 yX11_howMany ∈ gw := tg_7 (List.mem_of_getElem? (i := 139) rfl) rfl
theorem wd_7_141 : Cond.instanceMethod yX11_howMany ∈ gw := tg_7 (List.mem_of_getElem? (i := 141) rfl) rfl
theorem wd_7_142 : Cond.code yX11_howMany cX11_howMany 4 (some .int) ∈ gw := tg_7 (List.mem_of_getElem? (i := 142) rfl) rfl
theorem wd_7_143 : Cond.methodLink RL 108 yX11_told ∈ gw := tg_7 (List.mem_of_getElem? (i := 143) rfl) rfl
theorem wd_7_144 : Cond.instanceMethod yX11_told ∈ gw := tg_7 (List.mem_of_getElem? (i := 144) rfl) rfl
theorem wd_7_145 : Cond.selects RX11 yX11_told yX11_told ∈ gw := tg_7 (List.mem_of_getElem? (i := 145) rfl) rfl
theorem wd_7_146 : Cond.code yX11_told cX11_told 3 (some .int) ∈ gw := tg_7 (List.mem_of_getElem? (i := 146) rfl) rfl
theorem wd_7_147 : Cond.constantLong RX11 466 9 ∈ gw := tg_7 (List.mem_of_getElem? (i := 147) rfl) rfl
theorem wd_7_148 : Cond.methodLink RL 115 yX11_result ∈ gw := tg_7 (List.mem_of_getElem? (i := 148) rfl) rfl
theorem wd_7_149 : Cond.instanceMethod yX11_result ∈ gw := tg_7 (List.mem_of_getElem? (i := 149) rfl) rfl
theorem wd_7_150 : Cond.selects RX11 yX11_result yX11_result ∈ gw := tg_7 (List.mem_of_getElem? (i := 150) rfl) rfl
theorem wd_7_151 : Cond.code yX11_result cX11_result 3 (some .int) ∈ gw := tg_7 (List.mem_of_getElem? (i := 151) rfl) rfl
theorem wd_7_152 : Cond.methodLink RL 120 yX11_trace ∈ gw := tg_7 (List.mem_of_getElem? (i := 152) rfl) rfl
theorem wd_7_153 : Cond.instanceMethod yX11_trace ∈ gw := tg_7 (List.mem_of_getElem? (i := 153) rfl) rfl
theorem wd_7_154 : Cond.selects RX11 yX11_trace yX11_trace ∈ gw := tg_7 (List.mem_of_getElem? (i := 154) rfl) rfl
theorem wd_7_155 : Cond.code yX11_trace cX11_trace 4 (some .long) ∈ gw := tg_7 (List.mem_of_getElem? (i := 155) rfl) rfl
theorem wd_7_156 : Cond.methodLink RX11 468 yX11_hasBegun ∈ gw := tg_7 (List.mem_of_getElem? (i := 156) rfl) rfl
theorem wd_7_158 : Cond.instanceMethod yX11_hasBegun ∈ gw := tg_7 (List.mem_of_getElem? (i := 158) rfl) rfl
theorem wd_7_159 : Cond.code yX11_hasBegun cX11_hasBegun 2 (some .boolean) ∈ gw := tg_7 (List.mem_of_getElem? (i := 159) rfl) rfl
theorem wd_7_160 : Cond.methodLink RL 124 yX11_signs ∈ gw := tg_7 (List.mem_of_getElem? (i := 160) rfl) rfl
theorem wd_7_161 : Cond.instanceMethod yX11_signs ∈ gw := tg_7 (List.mem_of_getElem? (i := 161) rfl) rfl
theorem wd_7_162 : Cond.selects RX11 yX11_signs yX11_signs ∈ gw := tg_7 (List.mem_of_getElem? (i := 162) rfl) rfl
theorem wd_7_163 : Cond.code yX11_signs cX11_signs 2 (some .int) ∈ gw := tg_7 (List.mem_of_getElem? (i := 163) rfl) rfl
theorem wd_7_164 : Cond.methodLink RL 128 yX11_register ∈ gw := tg_7 (List.mem_of_getElem? (i := 164) rfl) rfl
theorem wd_7_165 : Cond.instanceMethod yX11_register ∈ gw := tg_7 (List.mem_of_getElem? (i := 165) rfl) rfl
theorem wd_7_166 : Cond.selects RX11 yX11_register yX11_register ∈ gw := tg_7 (List.mem_of_getElem? (i := 166) rfl) rfl
theorem wd_7_167 : Cond.code yX11_register cX11_register 3 (some .int) ∈ gw := tg_7 (List.mem_of_getElem? (i := 167) rfl) rfl
theorem wd_7_168 : Cond.methodLink RL 132 yX11_place ∈ gw := tg_7 (List.mem_of_getElem? (i := 168) rfl) rfl
theorem wd_7_169 : Cond.instanceMethod yX11_place ∈ gw := tg_7 (List.mem_of_getElem? (i := 169) rfl) rfl
theorem wd_7_170 : Cond.selects RX11 yX11_place yX11_place ∈ gw := tg_7 (List.mem_of_getElem? (i := 170) rfl) rfl
theorem wd_7_171 : Cond.code yX11_place cX11_place 2 (some .int) ∈ gw := tg_7 (List.mem_of_getElem? (i := 171) rfl) rfl
theorem wd_7_172 : Cond.methodLink RL 136 yX11_allOver ∈ gw := tg_7 (List.mem_of_getElem? (i := 172) rfl) rfl
theorem wd_7_173 : Cond.instanceMethod yX11_allOver ∈ gw := tg_7 (List.mem_of_getElem? (i := 173) rfl) rfl
theorem wd_7_174 : Cond.selects RX11 yX11_allOver yX11_allOver ∈ gw := tg_7 (List.mem_of_getElem? (i := 174) rfl) rfl
theorem wd_7_175 : Cond.code yX11_allOver cX11_allOver 5 (some .int) ∈ gw := tg_7 (List.mem_of_getElem? (i := 175) rfl) rfl
theorem wd_7_176 : Cond.methodLink RX11 471 yX11_copies ∈ gw := tg_7 (List.mem_of_getElem? (i := 176) rfl) rfl
theorem wd_7_177 : Cond.static yX11_copies ∈ gw := tg_7 (List.mem_of_getElem? (i := 177) rfl) rfl
theorem wd_7_178 : Cond.code yX11_copies cX11_copies 3 none ∈ gw := tg_7 (List.mem_of_getElem? (i := 178) rfl) rfl
theorem wd_7_179 : Cond.methodLink RX11 475 yX11_copies_ ∈ gw := tg_7 (List.mem_of_getElem? (i := 179) rfl) rfl
theorem wd_7_180 : Cond.static yX11_copies_ ∈ gw := tg_7 (List.mem_of_getElem? (i := 180) rfl) rfl
theorem wd_7_181 : Cond.code yX11_copies_ cX11_copies_ 3 none ∈ gw := tg_7 (List.mem_of_getElem? (i := 181) rfl) rfl
theorem wd_7_182 : Cond.methodLink RL 157 yX11_image ∈ gw := tg_7 (List.mem_of_getElem? (i := 182) rfl) rfl
theorem wd_7_183 : Cond.instanceMethod yX11_image ∈ gw := tg_7 (List.mem_of_getElem? (i := 183) rfl) rfl
theorem wd_7_184 : Cond.selects RX11 yX11_image yX11_image ∈ gw := tg_7 (List.mem_of_getElem? (i := 184) rfl) rfl
theorem wd_7_185 : Cond.code yX11_image cX11_image 1 (some .int) ∈ gw := tg_7 (List.mem_of_getElem? (i := 185) rfl) rfl
theorem wd_7_186 : Cond.methodLink RL 161 yX11_back ∈ gw := tg_7 (List.mem_of_getElem? (i := 186) rfl) rfl
theorem wd_7_187 : Cond.instanceMethod yX11_back ∈ gw := tg_7 (List.mem_of_getElem? (i := 187) rfl) rfl
theorem wd_7_188 : Cond.selects RX11 yX11_back yX11_back ∈ gw := tg_7 (List.mem_of_getElem? (i := 188) rfl) rfl
theorem wd_7_189 : Cond.code yX11_back cX11_back 1 (some .int) ∈ gw := tg_7 (List.mem_of_getElem? (i := 189) rfl) rfl
theorem wd_7_190 : Cond.methodLink RL 165 yX11_waits ∈ gw := tg_7 (List.mem_of_getElem? (i := 190) rfl) rfl
theorem wd_7_191 : Cond.instanceMethod yX11_waits ∈ gw := tg_7 (List.mem_of_getElem? (i := 191) rfl) rfl
theorem wd_7_192 : Cond.selects RX11 yX11_waits yX11_waits ∈ gw := tg_7 (List.mem_of_getElem? (i := 192) rfl) rfl
theorem wd_7_193 : Cond.code yX11_waits cX11_waits 4 (some .int) ∈ gw := tg_7 (List.mem_of_getElem? (i := 193) rfl) rfl
theorem wd_7_194 : Cond.methodLink RL 169 yX11_status ∈ gw := tg_7 (List.mem_of_getElem? (i := 194) rfl) rfl
theorem wd_7_195 : Cond.instanceMethod yX11_status ∈ gw := tg_7 (List.mem_of_getElem? (i := 195) rfl) rfl
theorem wd_7_196 : Cond.selects RX11 yX11_status yX11_status ∈ gw := tg_7 (List.mem_of_getElem? (i := 196) rfl) rfl
theorem wd_7_197 : Cond.code yX11_status cX11_status 2 (some .int) ∈ gw := tg_7 (List.mem_of_getElem? (i := 197) rfl) rfl
theorem wd_7_198 : Cond.methodLink RL 174 yX11_most ∈ gw := tg_7 (List.mem_of_getElem? (i := 198) rfl) rfl
theorem wd_7_199 : Cond.instanceMethod yX11_most ∈ gw := tg_7 (List.mem_of_getElem? (i := 199) rfl) rfl
theorem wd_7_200 : Cond.selects RX11 yX11_most yX11_most ∈ gw := tg_7 (List.mem_of_getElem? (i := 200) rfl) rfl
theorem wd_7_201 : Cond.code yX11_most cX11_most 7 (some .long) ∈ gw := tg_7 (List.mem_of_getElem? (i := 201) rfl) rfl
theorem wd_7_202 : Cond.methodLink RX11 487 yJ9_max_f86c9 ∈ gw := tg_7 (List.mem_of_getElem? (i := 202) rfl) rfl
theorem wd_7_203 : Cond.methodLink RL 178 yX11_count ∈ gw := tg_7 (List.mem_of_getElem? (i := 203) rfl) rfl
theorem wd_7_204 : Cond.instanceMethod yX11_count ∈ gw := tg_7 (List.mem_of_getElem? (i := 204) rfl) rfl
theorem wd_7_205 : Cond.selects RX11 yX11_count yX11_count ∈ gw := tg_7 (List.mem_of_getElem? (i := 205) rfl) rfl
theorem wd_7_206 : Cond.code yX11_count cX11_count 2 (some .int) ∈ gw := tg_7 (List.mem_of_getElem? (i := 206) rfl) rfl
theorem wd_7_207 : Cond.sameMethod "java/lang/Throwable" "java/lang/Throwable" "fillInStackTrace" "(I)Ljava/lang/Throwable;" ∈ gw := tg_7 (List.mem_of_getElem? (i := 207) rfl) rfl
theorem wd_7_222 : Cond.fieldLinkNest RX9 67 "TurnShifts$Piece" "word" "Ljava/lang/String;" "TurnShifts" ∈ nestW := tn_7 (List.mem_of_getElem? (i := 222) rfl) rfl
theorem wd_7_223 : Cond.fieldLink RJ0 9 "java/lang/String" "value" "[B" ∈ gw := tg_7 (List.mem_of_getElem? (i := 223) rfl) rfl
theorem wd_7_224 : Cond.fieldLink RJ0 15 "java/lang/String" "coder" "B" ∈ gw := tg_7 (List.mem_of_getElem? (i := 224) rfl) rfl
theorem wd_7_225 : Cond.fieldLink RJx29ce0 7 "java/lang/Enum" "ordinal" "I" ∈ gw := tg_7 (List.mem_of_getElem? (i := 225) rfl) rfl
theorem wd_7_226 : Cond.fieldLinkNest RX9 85 "TurnShifts$Piece" "greatest" "I" "TurnShifts" ∈ nestW := tn_7 (List.mem_of_getElem? (i := 226) rfl) rfl
theorem wd_7_227 : Cond.fieldLinkNest RX9 99 "TurnShifts$Piece" "least" "I" "TurnShifts" ∈ nestW := tn_7 (List.mem_of_getElem? (i := 227) rfl) rfl
theorem wd_7_228 : Cond.fieldLinkNest RX3 59 "TurnShifts$Kind" "word" "Ljava/lang/String;" "TurnShifts" ∈ nestW := tn_7 (List.mem_of_getElem? (i := 228) rfl) rfl
theorem wd_7_229 : Cond.fieldLinkNest RX3 69 "TurnShifts$Kind" "names" "I" "TurnShifts" ∈ nestW := tn_7 (List.mem_of_getElem? (i := 229) rfl) rfl
theorem wd_7_230 : Cond.fieldLinkNest RX7 164 "TurnShifts$Kind" "turning" "Z" "TurnShifts" ∈ nestW := tn_7 (List.mem_of_getElem? (i := 230) rfl) rfl
theorem wd_7_231 : Cond.fieldLinkNest RX7 168 "TurnShifts$Kind" "mode" "I" "TurnShifts" ∈ nestW := tn_7 (List.mem_of_getElem? (i := 231) rfl) rfl
theorem wd_7_232 : Cond.fieldLinkNest RX8 118 "TurnShifts$Kind" "mode" "I" "TurnShifts" ∈ nestW := tn_7 (List.mem_of_getElem? (i := 232) rfl) rfl
theorem wd_7_233 : Cond.fieldLinkNest RX10 276 "TurnShifts$Kind" "mode" "I" "TurnShifts" ∈ nestW := tn_7 (List.mem_of_getElem? (i := 233) rfl) rfl
theorem wd_7_234 : Cond.fieldLinkNest RX10 281 "TurnShifts$Kind" "turning" "Z" "TurnShifts" ∈ nestW := tn_7 (List.mem_of_getElem? (i := 234) rfl) rfl
theorem wd_7_235 : Cond.fieldLinkNest RX10 336 "TurnShifts$Kind" "names" "I" "TurnShifts" ∈ nestW := tn_7 (List.mem_of_getElem? (i := 235) rfl) rfl
theorem wd_7_236 : Cond.fieldLinkNest RX1 116 "TurnShifts$Kind" "turning" "Z" "TurnShifts" ∈ nestW := tn_7 (List.mem_of_getElem? (i := 236) rfl) rfl
theorem wd_7_237 : Cond.fieldLinkNest RX1 142 "TurnShifts$Kind" "mode" "I" "TurnShifts" ∈ nestW := tn_7 (List.mem_of_getElem? (i := 237) rfl) rfl
theorem tp_1 {y : MethodName} {n : Nat} (h : (y, n) ∈ lw_privs_1) : Cond.selects y.cls y y ∈ gw := List.mem_filter.mpr ⟨List.mem_append_left _ (List.mem_map.mpr ⟨(y, n), List.mem_append_left _ h, rfl⟩), rfl⟩
theorem wp_1_0 : Cond.selects RX8 yX8_build yX8_build ∈ gw := tp_1 (y := yX8_build) (n := 14) (List.mem_of_getElem? (i := 0) rfl)
theorem wp_1_1 : Cond.selects RX8 yX8_rounded yX8_rounded ∈ gw := tp_1 (y := yX8_rounded) (n := 14) (List.mem_of_getElem? (i := 1) rfl)
theorem wp_1_2 : Cond.selects RX8 yX8_fillShifts yX8_fillShifts ∈ gw := tp_1 (y := yX8_fillShifts) (n := 14) (List.mem_of_getElem? (i := 2) rfl)
theorem wp_1_3 : Cond.selects RX8 yX8_fillAngles yX8_fillAngles ∈ gw := tp_1 (y := yX8_fillAngles) (n := 14) (List.mem_of_getElem? (i := 3) rfl)
theorem wp_1_4 : Cond.selects RX8 yX8_powerFor yX8_powerFor ∈ gw := tp_1 (y := yX8_powerFor) (n := 14) (List.mem_of_getElem? (i := 4) rfl)
theorem wp_1_5 : Cond.selects RX8 yX8_square yX8_square ∈ gw := tp_1 (y := yX8_square) (n := 14) (List.mem_of_getElem? (i := 5) rfl)
theorem wp_1_6 : Cond.selects RX8 yX8_fillDigits yX8_fillDigits ∈ gw := tp_1 (y := yX8_fillDigits) (n := 14) (List.mem_of_getElem? (i := 6) rfl)
theorem wp_1_7 : Cond.selects RX6 yX6_append yX6_append ∈ gw := tp_1 (y := yX6_append) (n := 2) (List.mem_of_getElem? (i := 7) rfl)
theorem wp_1_8 : Cond.selects RX9 yX9_read yX9_read ∈ gw := tp_1 (y := yX9_read) (n := 7) (List.mem_of_getElem? (i := 8) rfl)
theorem wp_1_9 : Cond.selects RX9 yX9_forget yX9_forget ∈ gw := tp_1 (y := yX9_forget) (n := 7) (List.mem_of_getElem? (i := 9) rfl)
theorem wp_1_10 : Cond.selects RX9 yX9_readPiece yX9_readPiece ∈ gw := tp_1 (y := yX9_readPiece) (n := 7) (List.mem_of_getElem? (i := 10) rfl)
theorem wp_1_11 : Cond.selects RX5 yX5_skipBlanks yX5_skipBlanks ∈ gw := tp_1 (y := yX5_skipBlanks) (n := 2) (List.mem_of_getElem? (i := 11) rfl)
theorem wp_1_12 : Cond.selects RX5 yX5_here yX5_here ∈ gw := tp_1 (y := yX5_here) (n := 2) (List.mem_of_getElem? (i := 12) rfl)
theorem wp_1_13 : Cond.selects RX5 yX5_passLetters yX5_passLetters ∈ gw := tp_1 (y := yX5_passLetters) (n := 2) (List.mem_of_getElem? (i := 13) rfl)
theorem wp_1_14 : Cond.selects RX5 yX5_isOnLetter yX5_isOnLetter ∈ gw := tp_1 (y := yX5_isOnLetter) (n := 2) (List.mem_of_getElem? (i := 14) rfl)
theorem wp_1_15 : Cond.selects RX5 yX5_reads yX5_reads ∈ gw := tp_1 (y := yX5_reads) (n := 2) (List.mem_of_getElem? (i := 15) rfl)
theorem tp_2 {y : MethodName} {n : Nat} (h : (y, n) ∈ lw_privs_2) : Cond.selects y.cls y y ∈ gw := List.mem_filter.mpr ⟨List.mem_append_left _ (List.mem_map.mpr ⟨(y, n), List.mem_append_right _ (List.mem_append_left _ h), rfl⟩), rfl⟩
theorem wp_2_0 : Cond.selects RX9 yX9_mayCome yX9_mayCome ∈ gw := tp_2 (y := yX9_mayCome) (n := 7) (List.mem_of_getElem? (i := 0) rfl)
theorem wp_2_1 : Cond.selects RX9 yX9_readRest yX9_readRest ∈ gw := tp_2 (y := yX9_readRest) (n := 7) (List.mem_of_getElem? (i := 1) rfl)
theorem wp_2_2 : Cond.selects RX9 yX9_take yX9_take ∈ gw := tp_2 (y := yX9_take) (n := 7) (List.mem_of_getElem? (i := 2) rfl)
theorem wp_2_3 : Cond.selects RX5 yX5_passDigits yX5_passDigits ∈ gw := tp_2 (y := yX5_passDigits) (n := 2) (List.mem_of_getElem? (i := 3) rfl)
theorem wp_2_4 : Cond.selects RX5 yX5_isOnDigit yX5_isOnDigit ∈ gw := tp_2 (y := yX5_isOnDigit) (n := 2) (List.mem_of_getElem? (i := 4) rfl)
theorem wp_2_5 : Cond.selects RX5 yX5_number yX5_number ∈ gw := tp_2 (y := yX5_number) (n := 2) (List.mem_of_getElem? (i := 5) rfl)
theorem wp_2_6 : Cond.selects RX5 yX5_isAtEnd yX5_isAtEnd ∈ gw := tp_2 (y := yX5_isAtEnd) (n := 2) (List.mem_of_getElem? (i := 6) rfl)
theorem wp_2_7 : Cond.selects RX3 yX3_read yX3_read ∈ gw := tp_2 (y := yX3_read) (n := 5) (List.mem_of_getElem? (i := 7) rfl)
theorem wp_2_8 : Cond.selects RX3 yX3_readLine yX3_readLine ∈ gw := tp_2 (y := yX3_readLine) (n := 5) (List.mem_of_getElem? (i := 8) rfl)
theorem wp_2_9 : Cond.selects RX3 yX3_readOperands yX3_readOperands ∈ gw := tp_2 (y := yX3_readOperands) (n := 5) (List.mem_of_getElem? (i := 9) rfl)
theorem wp_2_10 : Cond.selects RX3 yX3_readTie yX3_readTie ∈ gw := tp_2 (y := yX3_readTie) (n := 5) (List.mem_of_getElem? (i := 10) rfl)
theorem wp_2_11 : Cond.selects RX3 yX3_readNumber yX3_readNumber ∈ gw := tp_2 (y := yX3_readNumber) (n := 5) (List.mem_of_getElem? (i := 11) rfl)
theorem wp_2_12 : Cond.selects RX9 yX9_guardOrUsual yX9_guardOrUsual ∈ gw := tp_2 (y := yX9_guardOrUsual) (n := 7) (List.mem_of_getElem? (i := 12) rfl)
theorem wp_2_13 : Cond.selects RX9 yX9_placesOrStages yX9_placesOrStages ∈ gw := tp_2 (y := yX9_placesOrStages) (n := 7) (List.mem_of_getElem? (i := 13) rfl)
theorem wp_2_14 : Cond.selects RX1 yX1_clear yX1_clear ∈ gw := tp_2 (y := yX1_clear) (n := 12) (List.mem_of_getElem? (i := 14) rfl)
theorem wp_2_15 : Cond.selects RX1 yX1_howMany yX1_howMany ∈ gw := tp_2 (y := yX1_howMany) (n := 12) (List.mem_of_getElem? (i := 15) rfl)
theorem tp_3 {y : MethodName} {n : Nat} (h : (y, n) ∈ lw_privs_3) : Cond.selects y.cls y y ∈ gw := List.mem_filter.mpr ⟨List.mem_append_left _ (List.mem_map.mpr ⟨(y, n), List.mem_append_right _ (List.mem_append_right _ (List.mem_append_left _ h)), rfl⟩), rfl⟩
theorem wp_3_0 : Cond.selects RX10 yX10_isMode yX10_isMode ∈ gw := tp_3 (y := yX10_isMode) (n := 12) (List.mem_of_getElem? (i := 0) rfl)
theorem wp_3_1 : Cond.selects RX8 yX8_needsWord yX8_needsWord ∈ gw := tp_3 (y := yX8_needsWord) (n := 14) (List.mem_of_getElem? (i := 1) rfl)
theorem wp_3_2 : Cond.selects RX8 yX8_digitsUsed yX8_digitsUsed ∈ gw := tp_3 (y := yX8_digitsUsed) (n := 14) (List.mem_of_getElem? (i := 2) rfl)
theorem wp_3_3 : Cond.selects RX8 yX8_words yX8_words ∈ gw := tp_3 (y := yX8_words) (n := 14) (List.mem_of_getElem? (i := 3) rfl)
theorem wp_3_4 : Cond.selects RX8 yX8_hasWordBefore yX8_hasWordBefore ∈ gw := tp_3 (y := yX8_hasWordBefore) (n := 14) (List.mem_of_getElem? (i := 4) rfl)
theorem wp_3_5 : Cond.selects RX8 yX8_firstWithoutWords yX8_firstWithoutWords ∈ gw := tp_3 (y := yX8_firstWithoutWords) (n := 14) (List.mem_of_getElem? (i := 5) rfl)
theorem wp_3_6 : Cond.selects RX8 yX8_withoutGain yX8_withoutGain ∈ gw := tp_3 (y := yX8_withoutGain) (n := 14) (List.mem_of_getElem? (i := 6) rfl)
theorem wp_3_7 : Cond.selects RX8 yX8_shifted yX8_shifted ∈ gw := tp_3 (y := yX8_shifted) (n := 14) (List.mem_of_getElem? (i := 7) rfl)
theorem wp_3_8 : Cond.selects RX10 yX10_isKind yX10_isKind ∈ gw := tp_3 (y := yX10_isKind) (n := 12) (List.mem_of_getElem? (i := 8) rfl)
theorem wp_3_9 : Cond.selects RX7 yX7_solve yX7_solve ∈ gw := tp_3 (y := yX7_solve) (n := 8) (List.mem_of_getElem? (i := 9) rfl)
theorem wp_3_10 : Cond.selects RX7 yX7_fits yX7_fits ∈ gw := tp_3 (y := yX7_fits) (n := 8) (List.mem_of_getElem? (i := 10) rfl)
theorem wp_3_11 : Cond.selects RX7 yX7_isTo yX7_isTo ∈ gw := tp_3 (y := yX7_isTo) (n := 8) (List.mem_of_getElem? (i := 11) rfl)
theorem wp_3_12 : Cond.selects RX7 yX7_begin yX7_begin ∈ gw := tp_3 (y := yX7_begin) (n := 8) (List.mem_of_getElem? (i := 12) rfl)
theorem wp_3_13 : Cond.selects RX7 yX7_beginNear yX7_beginNear ∈ gw := tp_3 (y := yX7_beginNear) (n := 8) (List.mem_of_getElem? (i := 13) rfl)
theorem wp_3_14 : Cond.selects RX7 yX7_put yX7_put ∈ gw := tp_3 (y := yX7_put) (n := 8) (List.mem_of_getElem? (i := 14) rfl)
theorem wp_3_15 : Cond.selects RX7 yX7_beginPolar yX7_beginPolar ∈ gw := tp_3 (y := yX7_beginPolar) (n := 8) (List.mem_of_getElem? (i := 15) rfl)
theorem tp_4 {y : MethodName} {n : Nat} (h : (y, n) ∈ lw_privs_4) : Cond.selects y.cls y y ∈ gw := List.mem_filter.mpr ⟨List.mem_append_left _ (List.mem_map.mpr ⟨(y, n), List.mem_append_right _ (List.mem_append_right _ (List.mem_append_right _ (List.mem_append_left _ h))), rfl⟩), rfl⟩
theorem wp_4_0 : Cond.selects RX7 yX7_beginTimes yX7_beginTimes ∈ gw := tp_4 (y := yX7_beginTimes) (n := 8) (List.mem_of_getElem? (i := 0) rfl)
theorem wp_4_1 : Cond.selects RX7 yX7_beginOver yX7_beginOver ∈ gw := tp_4 (y := yX7_beginOver) (n := 8) (List.mem_of_getElem? (i := 1) rfl)
theorem wp_4_2 : Cond.selects RX8 yX8_scaled yX8_scaled ∈ gw := tp_4 (y := yX8_scaled) (n := 14) (List.mem_of_getElem? (i := 2) rfl)
theorem wp_4_3 : Cond.selects RX7 yX7_beginApart yX7_beginApart ∈ gw := tp_4 (y := yX7_beginApart) (n := 8) (List.mem_of_getElem? (i := 3) rfl)
theorem wp_4_4 : Cond.selects RX7 yX7_beginTurn yX7_beginTurn ∈ gw := tp_4 (y := yX7_beginTurn) (n := 8) (List.mem_of_getElem? (i := 4) rfl)
theorem wp_4_5 : Cond.selects RX7 yX7_turnQuarters yX7_turnQuarters ∈ gw := tp_4 (y := yX7_turnQuarters) (n := 8) (List.mem_of_getElem? (i := 5) rfl)
theorem wp_4_6 : Cond.selects RX7 yX7_answers yX7_answers ∈ gw := tp_4 (y := yX7_answers) (n := 8) (List.mem_of_getElem? (i := 6) rfl)
theorem wp_4_7 : Cond.selects RX7 yX7_goThrough yX7_goThrough ∈ gw := tp_4 (y := yX7_goThrough) (n := 8) (List.mem_of_getElem? (i := 7) rfl)
theorem wp_4_8 : Cond.selects RX7 yX7_finish yX7_finish ∈ gw := tp_4 (y := yX7_finish) (n := 8) (List.mem_of_getElem? (i := 8) rfl)
theorem wp_4_9 : Cond.selects RX8 yX8_outward yX8_outward ∈ gw := tp_4 (y := yX8_outward) (n := 14) (List.mem_of_getElem? (i := 9) rfl)
theorem wp_4_10 : Cond.selects RX7 yX7_answer yX7_answer ∈ gw := tp_4 (y := yX7_answer) (n := 8) (List.mem_of_getElem? (i := 10) rfl)
theorem wp_4_11 : Cond.selects RX10 yX10_isBounded yX10_isBounded ∈ gw := tp_4 (y := yX10_isBounded) (n := 12) (List.mem_of_getElem? (i := 11) rfl)
theorem wp_4_12 : Cond.selects RX8 yX8_farthest yX8_farthest ∈ gw := tp_4 (y := yX8_farthest) (n := 14) (List.mem_of_getElem? (i := 12) rfl)
theorem wp_4_13 : Cond.selects RX10 yX10_refuse yX10_refuse ∈ gw := tp_4 (y := yX10_refuse) (n := 12) (List.mem_of_getElem? (i := 13) rfl)
theorem wp_4_14 : Cond.selects RX1 yX1_add yX1_add ∈ gw := tp_4 (y := yX1_add) (n := 12) (List.mem_of_getElem? (i := 14) rfl)
theorem wp_4_15 : Cond.selects RX10 yX10_linesFit yX10_linesFit ∈ gw := tp_4 (y := yX10_linesFit) (n := 12) (List.mem_of_getElem? (i := 15) rfl)
theorem tp_5 {y : MethodName} {n : Nat} (h : (y, n) ∈ lw_privs_5) : Cond.selects y.cls y y ∈ gw := List.mem_filter.mpr ⟨List.mem_append_left _ (List.mem_map.mpr ⟨(y, n), List.mem_append_right _ (List.mem_append_right _ (List.mem_append_right _ (List.mem_append_right _ (List.mem_append_left _ h)))), rfl⟩), rfl⟩
theorem wp_5_0 : Cond.selects RX3 yX3_isTied yX3_isTied ∈ gw := tp_5 (y := yX3_isTied) (n := 5) (List.mem_of_getElem? (i := 0) rfl)
theorem wp_5_1 : Cond.selects RX10 yX10_takeLines yX10_takeLines ∈ gw := tp_5 (y := yX10_takeLines) (n := 12) (List.mem_of_getElem? (i := 1) rfl)
theorem wp_5_2 : Cond.selects RX1 yX1_tie yX1_tie ∈ gw := tp_5 (y := yX1_tie) (n := 12) (List.mem_of_getElem? (i := 2) rfl)
theorem wp_5_3 : Cond.selects RX10 yX10_isJob yX10_isJob ∈ gw := tp_5 (y := yX10_isJob) (n := 12) (List.mem_of_getElem? (i := 3) rfl)
theorem wp_5_4 : Cond.selects RX10 yX10_allow yX10_allow ∈ gw := tp_5 (y := yX10_allow) (n := 12) (List.mem_of_getElem? (i := 4) rfl)
theorem wp_5_5 : Cond.selects RX1 yX1_isAwaited yX1_isAwaited ∈ gw := tp_5 (y := yX1_isAwaited) (n := 12) (List.mem_of_getElem? (i := 5) rfl)
theorem wp_5_6 : Cond.selects RX1 yX1_tick yX1_tick ∈ gw := tp_5 (y := yX1_tick) (n := 12) (List.mem_of_getElem? (i := 6) rfl)
theorem wp_5_7 : Cond.selects RX1 yX1_isBusy yX1_isBusy ∈ gw := tp_5 (y := yX1_isBusy) (n := 12) (List.mem_of_getElem? (i := 7) rfl)
theorem wp_5_8 : Cond.selects RX1 yX1_goOn yX1_goOn ∈ gw := tp_5 (y := yX1_goOn) (n := 12) (List.mem_of_getElem? (i := 8) rfl)
theorem wp_5_9 : Cond.selects RX1 yX1_waiting yX1_waiting ∈ gw := tp_5 (y := yX1_waiting) (n := 12) (List.mem_of_getElem? (i := 9) rfl)
theorem wp_5_10 : Cond.selects RX1 yX1_standsIn yX1_standsIn ∈ gw := tp_5 (y := yX1_standsIn) (n := 12) (List.mem_of_getElem? (i := 10) rfl)
theorem wp_5_11 : Cond.selects RX1 yX1_mustWait yX1_mustWait ∈ gw := tp_5 (y := yX1_mustWait) (n := 12) (List.mem_of_getElem? (i := 11) rfl)
theorem wp_5_12 : Cond.selects RX1 yX1_bringIn yX1_bringIn ∈ gw := tp_5 (y := yX1_bringIn) (n := 12) (List.mem_of_getElem? (i := 12) rfl)
theorem wp_5_13 : Cond.selects RX10 yX10_hasBegun yX10_hasBegun ∈ gw := tp_5 (y := yX10_hasBegun) (n := 12) (List.mem_of_getElem? (i := 13) rfl)
theorem wp_5_14 : Cond.selects RX1 yX1_turnAgain yX1_turnAgain ∈ gw := tp_5 (y := yX1_turnAgain) (n := 12) (List.mem_of_getElem? (i := 14) rfl)
theorem wp_5_15 : Cond.selects RX1 yX1_aheadOf yX1_aheadOf ∈ gw := tp_5 (y := yX1_aheadOf) (n := 12) (List.mem_of_getElem? (i := 15) rfl)
theorem tp_6 {y : MethodName} {n : Nat} (h : (y, n) ∈ lw_privs_6) : Cond.selects y.cls y y ∈ gw := List.mem_filter.mpr ⟨List.mem_append_left _ (List.mem_map.mpr ⟨(y, n), List.mem_append_right _ (List.mem_append_right _ (List.mem_append_right _ (List.mem_append_right _ (List.mem_append_right _ (List.mem_append_left _ h))))), rfl⟩), rfl⟩
theorem wp_6_0 : Cond.selects RX1 yX1_copyFrom yX1_copyFrom ∈ gw := tp_6 (y := yX1_copyFrom) (n := 12) (List.mem_of_getElem? (i := 0) rfl)
theorem wp_6_1 : Cond.selects RX10 yX10_solveBoth yX10_solveBoth ∈ gw := tp_6 (y := yX10_solveBoth) (n := 12) (List.mem_of_getElem? (i := 1) rfl)
theorem wp_6_2 : Cond.selects RX10 yX10_distance yX10_distance ∈ gw := tp_6 (y := yX10_distance) (n := 12) (List.mem_of_getElem? (i := 2) rfl)
theorem wp_6_3 : Cond.selects RX1 yX1_greatestLeft yX1_greatestLeft ∈ gw := tp_6 (y := yX1_greatestLeft) (n := 12) (List.mem_of_getElem? (i := 3) rfl)
theorem wp_6_4 : Cond.selects RX1 yX1_longestWay yX1_longestWay ∈ gw := tp_6 (y := yX1_longestWay) (n := 12) (List.mem_of_getElem? (i := 4) rfl)
theorem wp_6_5 : Cond.selects RX1 yX1_sumsMade yX1_sumsMade ∈ gw := tp_6 (y := yX1_sumsMade) (n := 12) (List.mem_of_getElem? (i := 5) rfl)
theorem wp_6_7 : Cond.selects RX10 yX10_kindOf yX10_kindOf ∈ gw := tp_6 (y := yX10_kindOf) (n := 12) (List.mem_of_getElem? (i := 7) rfl)
theorem wp_6_8 : Cond.selects RX11 yX11_brings yX11_brings ∈ gw := tp_6 (y := yX11_brings) (n := 47) (List.mem_of_getElem? (i := 8) rfl)
theorem wp_6_9 : Cond.selects RX11 yX11_readsUnit yX11_readsUnit ∈ gw := tp_6 (y := yX11_readsUnit) (n := 47) (List.mem_of_getElem? (i := 9) rfl)
theorem wp_6_10 : Cond.selects RX11 yX11_piece yX11_piece ∈ gw := tp_6 (y := yX11_piece) (n := 47) (List.mem_of_getElem? (i := 10) rfl)
theorem wp_6_11 : Cond.selects RX11 yX11_look yX11_look ∈ gw := tp_6 (y := yX11_look) (n := 47) (List.mem_of_getElem? (i := 11) rfl)
theorem wp_6_12 : Cond.selects RX11 yX11_here yX11_here ∈ gw := tp_6 (y := yX11_here) (n := 47) (List.mem_of_getElem? (i := 12) rfl)
theorem wp_6_13 : Cond.selects RX11 yX11_wordEnd yX11_wordEnd ∈ gw := tp_6 (y := yX11_wordEnd) (n := 47) (List.mem_of_getElem? (i := 13) rfl)
theorem wp_6_14 : Cond.selects RX11 yX11_wordHere yX11_wordHere ∈ gw := tp_6 (y := yX11_wordHere) (n := 47) (List.mem_of_getElem? (i := 14) rfl)
theorem wp_6_15 : Cond.selects RX11 yX11_isWord yX11_isWord ∈ gw := tp_6 (y := yX11_isWord) (n := 47) (List.mem_of_getElem? (i := 15) rfl)
theorem tp_7 {y : MethodName} {n : Nat} (h : (y, n) ∈ lw_privs_7) : Cond.selects y.cls y y ∈ gw := List.mem_filter.mpr ⟨List.mem_append_left _ (List.mem_map.mpr ⟨(y, n), List.mem_append_right _ (List.mem_append_right _ (List.mem_append_right _ (List.mem_append_right _ (List.mem_append_right _ (List.mem_append_right _ (List.mem_append_left _ h)))))), rfl⟩), rfl⟩
theorem wp_7_0 : Cond.selects RX11 yX11_fails yX11_fails ∈ gw := tp_7 (y := yX11_fails) (n := 47) (List.mem_of_getElem? (i := 0) rfl)
theorem wp_7_1 : Cond.selects RX11 yX11_number yX11_number ∈ gw := tp_7 (y := yX11_number) (n := 47) (List.mem_of_getElem? (i := 1) rfl)
theorem wp_7_2 : Cond.selects RX11 yX11_readsOrders yX11_readsOrders ∈ gw := tp_7 (y := yX11_readsOrders) (n := 47) (List.mem_of_getElem? (i := 2) rfl)
theorem wp_7_3 : Cond.selects RX11 yX11_orderLine yX11_orderLine ∈ gw := tp_7 (y := yX11_orderLine) (n := 47) (List.mem_of_getElem? (i := 3) rfl)
theorem wp_7_4 : Cond.selects RX11 yX11_kindHere yX11_kindHere ∈ gw := tp_7 (y := yX11_kindHere) (n := 47) (List.mem_of_getElem? (i := 4) rfl)
theorem wp_7_5 : Cond.selects RX11 yX11_operand yX11_operand ∈ gw := tp_7 (y := yX11_operand) (n := 47) (List.mem_of_getElem? (i := 5) rfl)
theorem wp_7_6 : Cond.selects RX11 yX11_digits yX11_digits ∈ gw := tp_7 (y := yX11_digits) (n := 47) (List.mem_of_getElem? (i := 6) rfl)
theorem wp_7_7 : Cond.selects RX11 yX11_laysShifts yX11_laysShifts ∈ gw := tp_7 (y := yX11_laysShifts) (n := 47) (List.mem_of_getElem? (i := 7) rfl)
theorem wp_7_8 : Cond.selects RX11 yX11_lays yX11_lays ∈ gw := tp_7 (y := yX11_lays) (n := 47) (List.mem_of_getElem? (i := 8) rfl)
theorem wp_7_9 : Cond.selects RX11 yX11_row yX11_row ∈ gw := tp_7 (y := yX11_row) (n := 47) (List.mem_of_getElem? (i := 9) rfl)
theorem wp_7_10 : Cond.selects RX11 yX11_laysGain yX11_laysGain ∈ gw := tp_7 (y := yX11_laysGain) (n := 47) (List.mem_of_getElem? (i := 10) rfl)
theorem wp_7_11 : Cond.selects RX11 yX11_isMode yX11_isMode ∈ gw := tp_7 (y := yX11_isMode) (n := 47) (List.mem_of_getElem? (i := 11) rfl)
theorem wp_7_12 : Cond.selects RX11 yX11_isWordless yX11_isWordless ∈ gw := tp_7 (y := yX11_isWordless) (n := 47) (List.mem_of_getElem? (i := 12) rfl)
theorem wp_7_13 : Cond.selects RX11 yX11_digitsIn yX11_digitsIn ∈ gw := tp_7 (y := yX11_digitsIn) (n := 47) (List.mem_of_getElem? (i := 13) rfl)
theorem wp_7_14 : Cond.selects RX11 yX11_words yX11_words ∈ gw := tp_7 (y := yX11_words) (n := 47) (List.mem_of_getElem? (i := 14) rfl)
theorem wp_7_15 : Cond.selects RX11 yX11_wordlessFrom yX11_wordlessFrom ∈ gw := tp_7 (y := yX11_wordlessFrom) (n := 47) (List.mem_of_getElem? (i := 15) rfl)
theorem tp_8 {y : MethodName} {n : Nat} (h : (y, n) ∈ lw_privs_8) : Cond.selects y.cls y y ∈ gw := List.mem_filter.mpr ⟨List.mem_append_left _ (List.mem_map.mpr ⟨(y, n), List.mem_append_right _ (List.mem_append_right _ (List.mem_append_right _ (List.mem_append_right _ (List.mem_append_right _ (List.mem_append_right _ (List.mem_append_right _ (List.mem_append_left _ h))))))), rfl⟩), rfl⟩
theorem wp_8_0 : Cond.selects RX11 yX11_takenOut yX11_takenOut ∈ gw := tp_8 (y := yX11_takenOut) (n := 47) (List.mem_of_getElem? (i := 0) rfl)
theorem wp_8_1 : Cond.selects RX11 yX11_shifted yX11_shifted ∈ gw := tp_8 (y := yX11_shifted) (n := 47) (List.mem_of_getElem? (i := 1) rfl)
theorem wp_8_2 : Cond.selects RX11 yX11_isKind yX11_isKind ∈ gw := tp_8 (y := yX11_isKind) (n := 47) (List.mem_of_getElem? (i := 2) rfl)
theorem wp_8_3 : Cond.selects RX11 yX11_comes yX11_comes ∈ gw := tp_8 (y := yX11_comes) (n := 47) (List.mem_of_getElem? (i := 3) rfl)
theorem wp_8_4 : Cond.selects RX11 yX11_isGood yX11_isGood ∈ gw := tp_8 (y := yX11_isGood) (n := 47) (List.mem_of_getElem? (i := 4) rfl)
theorem wp_8_5 : Cond.selects RX11 yX11_begins yX11_begins ∈ gw := tp_8 (y := yX11_begins) (n := 47) (List.mem_of_getElem? (i := 5) rfl)
theorem wp_8_6 : Cond.selects RX11 yX11_quarters yX11_quarters ∈ gw := tp_8 (y := yX11_quarters) (n := 47) (List.mem_of_getElem? (i := 6) rfl)
theorem wp_8_7 : Cond.selects RX11 yX11_moved yX11_moved ∈ gw := tp_8 (y := yX11_moved) (n := 47) (List.mem_of_getElem? (i := 7) rfl)
theorem wp_8_8 : Cond.selects RX11 yX11_turns yX11_turns ∈ gw := tp_8 (y := yX11_turns) (n := 47) (List.mem_of_getElem? (i := 8) rfl)
theorem wp_8_9 : Cond.selects RX11 yX11_steps yX11_steps ∈ gw := tp_8 (y := yX11_steps) (n := 47) (List.mem_of_getElem? (i := 9) rfl)
theorem wp_8_10 : Cond.selects RX11 yX11_ends yX11_ends ∈ gw := tp_8 (y := yX11_ends) (n := 47) (List.mem_of_getElem? (i := 10) rfl)
theorem wp_8_11 : Cond.selects RX11 yX11_out yX11_out ∈ gw := tp_8 (y := yX11_out) (n := 47) (List.mem_of_getElem? (i := 11) rfl)
theorem wp_8_12 : Cond.selects RX11 yX11_hasOff yX11_hasOff ∈ gw := tp_8 (y := yX11_hasOff) (n := 47) (List.mem_of_getElem? (i := 12) rfl)
theorem wp_8_13 : Cond.selects RX11 yX11_offBy yX11_offBy ∈ gw := tp_8 (y := yX11_offBy) (n := 47) (List.mem_of_getElem? (i := 13) rfl)
theorem wp_8_14 : Cond.selects RX11 yX11_refuse yX11_refuse ∈ gw := tp_8 (y := yX11_refuse) (n := 47) (List.mem_of_getElem? (i := 14) rfl)
theorem wp_8_15 : Cond.selects RX11 yX11_adds yX11_adds ∈ gw := tp_8 (y := yX11_adds) (n := 47) (List.mem_of_getElem? (i := 15) rfl)
theorem tp_9 {y : MethodName} {n : Nat} (h : (y, n) ∈ lw_privs_9) : Cond.selects y.cls y y ∈ gw := List.mem_filter.mpr ⟨List.mem_append_left _ (List.mem_map.mpr ⟨(y, n), List.mem_append_right _ (List.mem_append_right _ (List.mem_append_right _ (List.mem_append_right _ (List.mem_append_right _ (List.mem_append_right _ (List.mem_append_right _ (List.mem_append_right _ (h)))))))), rfl⟩), rfl⟩
theorem wp_9_0 : Cond.selects RX11 yX11_areGood yX11_areGood ∈ gw := tp_9 (y := yX11_areGood) (n := 47) (List.mem_of_getElem? (i := 0) rfl)
theorem wp_9_1 : Cond.selects RX11 yX11_isLinked yX11_isLinked ∈ gw := tp_9 (y := yX11_isLinked) (n := 47) (List.mem_of_getElem? (i := 1) rfl)
theorem wp_9_2 : Cond.selects RX11 yX11_isJob yX11_isJob ∈ gw := tp_9 (y := yX11_isJob) (n := 47) (List.mem_of_getElem? (i := 2) rfl)
theorem wp_9_3 : Cond.selects RX11 yX11_of yX11_of ∈ gw := tp_9 (y := yX11_of) (n := 47) (List.mem_of_getElem? (i := 3) rfl)
theorem wp_9_4 : Cond.selects RX11 yX11_isWanted yX11_isWanted ∈ gw := tp_9 (y := yX11_isWanted) (n := 47) (List.mem_of_getElem? (i := 4) rfl)
theorem wp_9_5 : Cond.selects RX11 yX11_ticks yX11_ticks ∈ gw := tp_9 (y := yX11_ticks) (n := 47) (List.mem_of_getElem? (i := 5) rfl)
theorem wp_9_6 : Cond.selects RX11 yX11_goesOn yX11_goesOn ∈ gw := tp_9 (y := yX11_goesOn) (n := 47) (List.mem_of_getElem? (i := 6) rfl)
theorem wp_9_7 : Cond.selects RX11 yX11_takes yX11_takes ∈ gw := tp_9 (y := yX11_takes) (n := 47) (List.mem_of_getElem? (i := 7) rfl)
theorem wp_9_8 : Cond.selects RX11 yX11_puts yX11_puts ∈ gw := tp_9 (y := yX11_puts) (n := 47) (List.mem_of_getElem? (i := 8) rfl)
theorem wp_9_9 : Cond.selects RX11 yX11_firstWaiting yX11_firstWaiting ∈ gw := tp_9 (y := yX11_firstWaiting) (n := 47) (List.mem_of_getElem? (i := 9) rfl)
theorem wp_9_10 : Cond.selects RX11 yX11_standsIn yX11_standsIn ∈ gw := tp_9 (y := yX11_standsIn) (n := 47) (List.mem_of_getElem? (i := 10) rfl)
theorem wp_9_11 : Cond.selects RX11 yX11_hangs yX11_hangs ∈ gw := tp_9 (y := yX11_hangs) (n := 47) (List.mem_of_getElem? (i := 11) rfl)
theorem wp_9_12 : Cond.selects RX11 yX11_comesIn yX11_comesIn ∈ gw := tp_9 (y := yX11_comesIn) (n := 47) (List.mem_of_getElem? (i := 12) rfl)
theorem wp_9_13 : Cond.selects RX11 yX11_howMany yX11_howMany ∈ gw := tp_9 (y := yX11_howMany) (n := 47) (List.mem_of_getElem? (i := 13) rfl)
theorem wp_9_14 : Cond.selects RX11 yX11_hasBegun yX11_hasBegun ∈ gw := tp_9 (y := yX11_hasBegun) (n := 47) (List.mem_of_getElem? (i := 14) rfl)
theorem lay_X1 : ∀ w ∈ u_ws RX1 TX1 12, w ∈ gw := List.forall_mem_cons.mpr ⟨wd_2_69, List.forall_mem_cons.mpr ⟨wd_2_71, List.forall_mem_cons.mpr ⟨wd_2_73, List.forall_mem_cons.mpr ⟨wd_2_75, List.forall_mem_cons.mpr ⟨wd_2_77, List.forall_mem_cons.mpr ⟨wd_2_79, List.forall_mem_cons.mpr ⟨wd_2_81, List.forall_mem_cons.mpr ⟨wd_2_83, List.forall_mem_cons.mpr ⟨wd_2_85, List.forall_mem_cons.mpr ⟨wd_2_87, List.forall_mem_cons.mpr ⟨wd_2_89, List.forall_mem_cons.mpr ⟨wd_2_91, fun _ h => absurd h List.not_mem_nil⟩⟩⟩⟩⟩⟩⟩⟩⟩⟩⟩⟩
theorem lay_X3 : ∀ w ∈ u_ws RX3 TX3 5, w ∈ gw := List.forall_mem_cons.mpr ⟨wd_1_112, List.forall_mem_cons.mpr ⟨wd_1_114, List.forall_mem_cons.mpr ⟨wd_1_116, List.forall_mem_cons.mpr ⟨wd_1_118, List.forall_mem_cons.mpr ⟨wd_1_120, fun _ h => absurd h List.not_mem_nil⟩⟩⟩⟩⟩
theorem lay_X5 : ∀ w ∈ u_ws RX5 TX5 2, w ∈ gw := List.forall_mem_cons.mpr ⟨wd_1_65, List.forall_mem_cons.mpr ⟨wd_1_67, fun _ h => absurd h List.not_mem_nil⟩⟩
theorem lay_X6 : ∀ w ∈ u_ws RX6 TX6 2, w ∈ gw := List.forall_mem_cons.mpr ⟨wd_1_43, List.forall_mem_cons.mpr ⟨wd_1_45, fun _ h => absurd h List.not_mem_nil⟩⟩
theorem lay_X7 : ∀ w ∈ u_ws RX7 TX7 8, w ∈ gw := List.forall_mem_cons.mpr ⟨wd_1_219, List.forall_mem_cons.mpr ⟨wd_1_221, List.forall_mem_cons.mpr ⟨wd_1_223, List.forall_mem_cons.mpr ⟨wd_1_225, List.forall_mem_cons.mpr ⟨wd_1_227, List.forall_mem_cons.mpr ⟨wd_1_229, List.forall_mem_cons.mpr ⟨wd_1_231, List.forall_mem_cons.mpr ⟨wd_1_233, fun _ h => absurd h List.not_mem_nil⟩⟩⟩⟩⟩⟩⟩⟩
theorem lay_X8 : ∀ w ∈ u_ws RX8 TX8 14, w ∈ gw := List.forall_mem_cons.mpr ⟨wd_1_167, List.forall_mem_cons.mpr ⟨wd_1_169, List.forall_mem_cons.mpr ⟨wd_1_171, List.forall_mem_cons.mpr ⟨wd_1_173, List.forall_mem_cons.mpr ⟨wd_1_175, List.forall_mem_cons.mpr ⟨wd_1_177, List.forall_mem_cons.mpr ⟨wd_1_179, List.forall_mem_cons.mpr ⟨wd_1_181, List.forall_mem_cons.mpr ⟨wd_1_183, List.forall_mem_cons.mpr ⟨wd_1_185, List.forall_mem_cons.mpr ⟨wd_1_187, List.forall_mem_cons.mpr ⟨wd_1_189, List.forall_mem_cons.mpr ⟨wd_1_191, List.forall_mem_cons.mpr ⟨wd_1_193, fun _ h => absurd h List.not_mem_nil⟩⟩⟩⟩⟩⟩⟩⟩⟩⟩⟩⟩⟩⟩
theorem lay_X9 : ∀ w ∈ u_ws RX9 TX9 7, w ∈ gw := List.forall_mem_cons.mpr ⟨wd_1_80, List.forall_mem_cons.mpr ⟨wd_1_82, List.forall_mem_cons.mpr ⟨wd_1_84, List.forall_mem_cons.mpr ⟨wd_1_86, List.forall_mem_cons.mpr ⟨wd_1_88, List.forall_mem_cons.mpr ⟨wd_1_90, List.forall_mem_cons.mpr ⟨wd_1_92, fun _ h => absurd h List.not_mem_nil⟩⟩⟩⟩⟩⟩⟩
theorem lay_X10 : ∀ w ∈ u_ws RX10 TX10 12, w ∈ gw := List.forall_mem_cons.mpr ⟨wd_2_106, List.forall_mem_cons.mpr ⟨wd_2_108, List.forall_mem_cons.mpr ⟨wd_2_110, List.forall_mem_cons.mpr ⟨wd_2_112, List.forall_mem_cons.mpr ⟨wd_2_114, List.forall_mem_cons.mpr ⟨wd_2_116, List.forall_mem_cons.mpr ⟨wd_2_118, List.forall_mem_cons.mpr ⟨wd_2_120, List.forall_mem_cons.mpr ⟨wd_2_122, List.forall_mem_cons.mpr ⟨wd_2_124, List.forall_mem_cons.mpr ⟨wd_2_126, List.forall_mem_cons.mpr ⟨wd_2_128, fun _ h => absurd h List.not_mem_nil⟩⟩⟩⟩⟩⟩⟩⟩⟩⟩⟩⟩
theorem lay_X11 : ∀ w ∈ u_ws RX11 TX11 47, w ∈ gw := List.forall_mem_cons.mpr ⟨wd_6_39, List.forall_mem_cons.mpr ⟨wd_6_41, List.forall_mem_cons.mpr ⟨wd_6_43, List.forall_mem_cons.mpr ⟨wd_6_45, List.forall_mem_cons.mpr ⟨wd_6_47, List.forall_mem_cons.mpr ⟨wd_6_49, List.forall_mem_cons.mpr ⟨wd_6_51, List.forall_mem_cons.mpr ⟨wd_6_53, List.forall_mem_cons.mpr ⟨wd_6_55, List.forall_mem_cons.mpr ⟨wd_6_57, List.forall_mem_cons.mpr ⟨wd_6_59, List.forall_mem_cons.mpr ⟨wd_6_61, List.forall_mem_cons.mpr ⟨wd_6_63, List.forall_mem_cons.mpr ⟨wd_6_65, List.forall_mem_cons.mpr ⟨wd_6_67, List.forall_mem_cons.mpr ⟨wd_6_69, List.forall_mem_cons.mpr ⟨wd_6_71, List.forall_mem_cons.mpr ⟨wd_6_73, List.forall_mem_cons.mpr ⟨wd_6_75, List.forall_mem_cons.mpr ⟨wd_6_77, List.forall_mem_cons.mpr ⟨wd_6_79, List.forall_mem_cons.mpr ⟨wd_6_81, List.forall_mem_cons.mpr ⟨wd_6_83, List.forall_mem_cons.mpr ⟨wd_6_85, List.forall_mem_cons.mpr ⟨wd_6_87, List.forall_mem_cons.mpr ⟨wd_6_89, List.forall_mem_cons.mpr ⟨wd_6_91, List.forall_mem_cons.mpr ⟨wd_6_93, List.forall_mem_cons.mpr ⟨wd_6_95, List.forall_mem_cons.mpr ⟨wd_6_97, List.forall_mem_cons.mpr ⟨wd_6_99, List.forall_mem_cons.mpr ⟨wd_6_101, List.forall_mem_cons.mpr ⟨wd_6_103, List.forall_mem_cons.mpr ⟨wd_6_105, List.forall_mem_cons.mpr ⟨wd_6_107, List.forall_mem_cons.mpr ⟨wd_6_109, List.forall_mem_cons.mpr ⟨wd_6_111, List.forall_mem_cons.mpr ⟨wd_6_113, List.forall_mem_cons.mpr ⟨wd_6_115, List.forall_mem_cons.mpr ⟨wd_6_117, List.forall_mem_cons.mpr ⟨wd_6_119, List.forall_mem_cons.mpr ⟨wd_6_121, List.forall_mem_cons.mpr ⟨wd_6_123, List.forall_mem_cons.mpr ⟨wd_6_125, List.forall_mem_cons.mpr ⟨wd_6_127, List.forall_mem_cons.mpr ⟨wd_6_129, List.forall_mem_cons.mpr ⟨wd_6_131, fun _ h => absurd h List.not_mem_nil⟩⟩⟩⟩⟩⟩⟩⟩⟩⟩⟩⟩⟩⟩⟩⟩⟩⟩⟩⟩⟩⟩⟩⟩⟩⟩⟩⟩⟩⟩⟩⟩⟩⟩⟩⟩⟩⟩⟩⟩⟩⟩⟩⟩⟩⟩⟩
theorem mw_X1_init : MW yX1_init cX1_init 1 0 none := ⟨wd_2_45, wd_1_8, by decide +kernel, by decide +kernel, by decide +kernel⟩
theorem mw_X1_clear : MW yX1_clear cX1_clear 1 0 none := ⟨wd_3_73, wd_1_8, by decide +kernel, by decide +kernel, by decide +kernel⟩
theorem mw_X1_copyFrom : MW yX1_copyFrom cX1_copyFrom 2 1 none := ⟨wd_4_169, wd_1_8, by decide +kernel, by decide +kernel, by decide +kernel⟩
theorem mw_X1_add : MW yX1_add cX1_add 7 4 (some .int) := ⟨wd_4_39, wd_1_8, by decide +kernel, by decide +kernel, by decide +kernel⟩
theorem mw_X1_tie : MW yX1_tie cX1_tie 4 3 none := ⟨wd_4_59, wd_1_8, by decide +kernel, by decide +kernel, by decide +kernel⟩
theorem mw_X1_howMany : MW yX1_howMany cX1_howMany 4 1 (some .int) := ⟨wd_3_81, wd_1_8, by decide +kernel, by decide +kernel, by decide +kernel⟩
theorem mw_X1_isBusy : MW yX1_isBusy cX1_isBusy 1 0 (some .boolean) := ⟨wd_4_98, wd_1_8, by decide +kernel, by decide +kernel, by decide +kernel⟩
theorem mw_X1_waiting : MW yX1_waiting cX1_waiting 4 1 (some .int) := ⟨wd_4_106, wd_1_8, by decide +kernel, by decide +kernel, by decide +kernel⟩
theorem mw_X1_isAwaited : MW yX1_isAwaited cX1_isAwaited 3 1 (some .boolean) := ⟨wd_4_75, wd_1_8, by decide +kernel, by decide +kernel, by decide +kernel⟩
theorem mw_X1_aheadOf : MW yX1_aheadOf cX1_aheadOf 3 1 (some .int) := ⟨wd_4_156, wd_1_8, by decide +kernel, by decide +kernel, by decide +kernel⟩
theorem mw_X1_standsIn : MW yX1_standsIn cX1_standsIn 4 2 (some .int) := ⟨wd_4_110, wd_1_8, by decide +kernel, by decide +kernel, by decide +kernel⟩
theorem mw_X1_tick : MW yX1_tick cX1_tick 4 1 (some .int) := ⟨wd_4_94, wd_1_8, by decide +kernel, by decide +kernel, by decide +kernel⟩
theorem mw_X1_goOn : MW yX1_goOn cX1_goOn 4 1 (some .int) := ⟨wd_4_102, wd_1_8, by decide +kernel, by decide +kernel, by decide +kernel⟩
theorem mw_X1_mustWait : MW yX1_mustWait cX1_mustWait 4 1 (some .boolean) := ⟨wd_4_114, wd_1_8, by decide +kernel, by decide +kernel, by decide +kernel⟩
theorem mw_X1_bringIn : MW yX1_bringIn cX1_bringIn 7 2 none := ⟨wd_4_118, wd_1_8, by decide +kernel, by decide +kernel, by decide +kernel⟩
theorem mw_X1_turnAgain : MW yX1_turnAgain cX1_turnAgain 5 3 none := ⟨wd_4_142, wd_1_8, by decide +kernel, by decide +kernel, by decide +kernel⟩
theorem mw_X1_greatestLeft : MW yX1_greatestLeft cX1_greatestLeft 6 2 (some .long) := ⟨wd_4_225, wd_1_8, by decide +kernel, by decide +kernel, by decide +kernel⟩
theorem mw_X1_longestWay : MW yX1_longestWay cX1_longestWay 4 0 (some .long) := ⟨wd_4_235, wd_1_8, by decide +kernel, by decide +kernel, by decide +kernel⟩
theorem mw_X1_sumsMade : MW yX1_sumsMade cX1_sumsMade 5 1 (some .long) := ⟨wd_4_239, wd_1_8, by decide +kernel, by decide +kernel, by decide +kernel⟩
theorem mw_X3_init : MW yX3_init cX3_init 2 1 none := ⟨wd_1_99, wd_1_5, by decide +kernel, by decide +kernel, by decide +kernel⟩
theorem mw_X3_read : MW yX3_read cX3_read 3 0 (some .int) := ⟨wd_3_32, wd_1_5, by decide +kernel, by decide +kernel, by decide +kernel⟩
theorem mw_X3_isTied : MW yX3_isTied cX3_isTied 3 1 (some .boolean) := ⟨wd_4_51, wd_1_5, by decide +kernel, by decide +kernel, by decide +kernel⟩
theorem mw_X3_readLine : MW yX3_readLine cX3_readLine 5 1 (some .int) := ⟨wd_3_36, wd_1_5, by decide +kernel, by decide +kernel, by decide +kernel⟩
theorem mw_X3_readOperands : MW yX3_readOperands cX3_readOperands 5 2 (some .int) := ⟨wd_3_45, wd_1_5, by decide +kernel, by decide +kernel, by decide +kernel⟩
theorem mw_X3_readNumber : MW yX3_readNumber cX3_readNumber 6 1 (some .int) := ⟨wd_3_56, wd_1_5, by decide +kernel, by decide +kernel, by decide +kernel⟩
theorem mw_X3_readTie : MW yX3_readTie cX3_readTie 6 1 (some .int) := ⟨wd_3_50, wd_1_5, by decide +kernel, by decide +kernel, by decide +kernel⟩
theorem mw_X5_init : MW yX5_init cX5_init 2 1 none := ⟨wd_1_59, wd_1_4, by decide +kernel, by decide +kernel, by decide +kernel⟩
theorem mw_X5_here : MW yX5_here cX5_here 1 0 (some .int) := ⟨wd_2_169, wd_1_4, by decide +kernel, by decide +kernel, by decide +kernel⟩
theorem mw_X5_isAtEnd : MW yX5_isAtEnd cX5_isAtEnd 1 0 (some .boolean) := ⟨wd_3_27, wd_1_4, by decide +kernel, by decide +kernel, by decide +kernel⟩
theorem mw_X5_isOnLetter : MW yX5_isOnLetter cX5_isOnLetter 1 0 (some .boolean) := ⟨wd_2_177, wd_1_4, by decide +kernel, by decide +kernel, by decide +kernel⟩
theorem mw_X5_isOnDigit : MW yX5_isOnDigit cX5_isOnDigit 1 0 (some .boolean) := ⟨wd_3_19, wd_1_4, by decide +kernel, by decide +kernel, by decide +kernel⟩
theorem mw_X5_skipBlanks : MW yX5_skipBlanks cX5_skipBlanks 1 0 none := ⟨wd_2_165, wd_1_4, by decide +kernel, by decide +kernel, by decide +kernel⟩
theorem mw_X5_passLetters : MW yX5_passLetters cX5_passLetters 1 0 none := ⟨wd_2_173, wd_1_4, by decide +kernel, by decide +kernel, by decide +kernel⟩
theorem mw_X5_passDigits : MW yX5_passDigits cX5_passDigits 1 0 none := ⟨wd_3_15, wd_1_4, by decide +kernel, by decide +kernel, by decide +kernel⟩
theorem mw_X5_reads : MW yX5_reads cX5_reads 4 2 (some .boolean) := ⟨wd_2_183, wd_1_4, by decide +kernel, by decide +kernel, by decide +kernel⟩
theorem mw_X5_number : MW yX5_number cX5_number 4 1 (some .int) := ⟨wd_3_23, wd_1_4, by decide +kernel, by decide +kernel, by decide +kernel⟩
theorem mw_X6_init : MW yX6_init cX6_init 1 0 none := ⟨wd_1_36, wd_1_2, by decide +kernel, by decide +kernel, by decide +kernel⟩
theorem mw_X6_bytesTold : MW yX6_bytesTold cX6_bytesTold 3 1 (some .int) := ⟨wd_2_137, wd_1_2, by decide +kernel, by decide +kernel, by decide +kernel⟩
theorem mw_X6_append : MW yX6_append cX6_append 4 1 none := ⟨wd_2_141, wd_1_2, by decide +kernel, by decide +kernel, by decide +kernel⟩
theorem mw_X7_init : MW yX7_init cX7_init 2 1 none := ⟨wd_1_201, wd_1_7, by decide +kernel, by decide +kernel, by decide +kernel⟩
theorem mw_X7_solve : MW yX7_solve cX7_solve 8 4 (some .boolean) := ⟨wd_3_152, wd_1_7, by decide +kernel, by decide +kernel, by decide +kernel⟩
theorem mw_X7_answer : MW yX7_answer cX7_answer 2 1 (some .long) := ⟨wd_4_12, wd_1_7, by decide +kernel, by decide +kernel, by decide +kernel⟩
theorem mw_X7_fits : MW yX7_fits cX7_fits 8 4 (some .boolean) := ⟨wd_3_156, wd_1_7, by decide +kernel, by decide +kernel, by decide +kernel⟩
theorem mw_X7_isTo : MW yX7_isTo cX7_isTo 6 2 (some .boolean) := ⟨wd_3_166, wd_1_7, by decide +kernel, by decide +kernel, by decide +kernel⟩
theorem mw_X7_stepsOver : MW yX7_stepsOver cX7_stepsOver 5 2 (some .int) := ⟨wd_3_169, wd_1_7, by decide +kernel, by decide +kernel, by decide +kernel⟩
theorem mw_X7_begin : MW yX7_begin cX7_begin 14 4 none := ⟨wd_3_176, wd_1_7, by decide +kernel, by decide +kernel, by decide +kernel⟩
theorem mw_X7_put : MW yX7_put cX7_put 7 3 none := ⟨wd_3_191, wd_1_7, by decide +kernel, by decide +kernel, by decide +kernel⟩
theorem mw_X7_beginNear : MW yX7_beginNear cX7_beginNear 7 3 none := ⟨wd_3_180, wd_1_7, by decide +kernel, by decide +kernel, by decide +kernel⟩
theorem mw_X7_beginPolar : MW yX7_beginPolar cX7_beginPolar 5 2 none := ⟨wd_3_195, wd_1_7, by decide +kernel, by decide +kernel, by decide +kernel⟩
theorem mw_X7_beginTimes : MW yX7_beginTimes cX7_beginTimes 5 2 none := ⟨wd_3_200, wd_1_7, by decide +kernel, by decide +kernel, by decide +kernel⟩
theorem mw_X7_beginOver : MW yX7_beginOver cX7_beginOver 5 2 none := ⟨wd_3_205, wd_1_7, by decide +kernel, by decide +kernel, by decide +kernel⟩
theorem mw_X7_beginApart : MW yX7_beginApart cX7_beginApart 5 2 none := ⟨wd_3_223, wd_1_7, by decide +kernel, by decide +kernel, by decide +kernel⟩
theorem mw_X7_beginTurn : MW yX7_beginTurn cX7_beginTurn 7 3 none := ⟨wd_3_227, wd_1_7, by decide +kernel, by decide +kernel, by decide +kernel⟩
theorem mw_X7_nearest : MW yX7_nearest cX7_nearest 4 2 (some .int) := ⟨wd_3_183, wd_1_7, by decide +kernel, by decide +kernel, by decide +kernel⟩
theorem mw_X7_powerOf : MW yX7_powerOf cX7_powerOf 2 1 (some .int) := ⟨wd_3_208, wd_1_7, by decide +kernel, by decide +kernel, by decide +kernel⟩
theorem mw_X7_turnQuarters : MW yX7_turnQuarters cX7_turnQuarters 5 2 none := ⟨wd_3_231, wd_1_7, by decide +kernel, by decide +kernel, by decide +kernel⟩
theorem mw_X7_answers : MW yX7_answers cX7_answers 5 2 none := ⟨wd_3_235, wd_1_7, by decide +kernel, by decide +kernel, by decide +kernel⟩
theorem mw_X7_goThrough : MW yX7_goThrough cX7_goThrough 12 2 none := ⟨wd_3_239, wd_1_7, by decide +kernel, by decide +kernel, by decide +kernel⟩
theorem mw_X7_finish : MW yX7_finish cX7_finish 2 1 none := ⟨wd_4_3, wd_1_7, by decide +kernel, by decide +kernel, by decide +kernel⟩
theorem mw_X8_init : MW yX8_init cX8_init 1 0 none := ⟨wd_1_127, wd_1_6, by decide +kernel, by decide +kernel, by decide +kernel⟩
theorem mw_X8_build : MW yX8_build cX8_build 7 5 none := ⟨wd_1_239, wd_1_6, by decide +kernel, by decide +kernel, by decide +kernel⟩
theorem mw_X8_ofShift : MW yX8_ofShift cX8_ofShift 7 2 (some .long) := ⟨wd_2_27, wd_1_6, by decide +kernel, by decide +kernel, by decide +kernel⟩
theorem mw_X8_ofOneOver : MW yX8_ofOneOver cX8_ofOneOver 9 2 (some .long) := ⟨wd_2_6, wd_1_6, by decide +kernel, by decide +kernel, by decide +kernel⟩
theorem mw_X8_eighthTurn : MW yX8_eighthTurn cX8_eighthTurn 0 0 (some .long) := ⟨wd_2_2, wd_1_6, by decide +kernel, by decide +kernel, by decide +kernel⟩
theorem mw_X8_rootOf : MW yX8_rootOf cX8_rootOf 7 1 (some .long) := ⟨wd_2_35, wd_1_6, by decide +kernel, by decide +kernel, by decide +kernel⟩
theorem mw_X8_rounded : MW yX8_rounded cX8_rounded 3 1 (some .long) := ⟨wd_2_11, wd_1_6, by decide +kernel, by decide +kernel, by decide +kernel⟩
theorem mw_X8_fillShifts : MW yX8_fillShifts cX8_fillShifts 5 1 none := ⟨wd_2_16, wd_1_6, by decide +kernel, by decide +kernel, by decide +kernel⟩
theorem mw_X8_fillAngles : MW yX8_fillAngles cX8_fillAngles 4 1 none := ⟨wd_2_20, wd_1_6, by decide +kernel, by decide +kernel, by decide +kernel⟩
theorem mw_X8_powerFor : MW yX8_powerFor cX8_powerFor 2 1 (some .long) := ⟨wd_2_24, wd_1_6, by decide +kernel, by decide +kernel, by decide +kernel⟩
theorem mw_X8_square : MW yX8_square cX8_square 7 1 (some .long) := ⟨wd_2_31, wd_1_6, by decide +kernel, by decide +kernel, by decide +kernel⟩
theorem mw_X8_fillDigits : MW yX8_fillDigits cX8_fillDigits 6 1 none := ⟨wd_2_39, wd_1_6, by decide +kernel, by decide +kernel, by decide +kernel⟩
theorem mw_X8_needsWord : MW yX8_needsWord cX8_needsWord 4 2 (some .boolean) := ⟨wd_3_97, wd_1_6, by decide +kernel, by decide +kernel, by decide +kernel⟩
theorem mw_X8_digitsUsed : MW yX8_digitsUsed cX8_digitsUsed 4 1 (some .int) := ⟨wd_3_105, wd_1_6, by decide +kernel, by decide +kernel, by decide +kernel⟩
theorem mw_X8_words : MW yX8_words cX8_words 4 1 (some .int) := ⟨wd_3_109, wd_1_6, by decide +kernel, by decide +kernel, by decide +kernel⟩
theorem mw_X8_hasWordBefore : MW yX8_hasWordBefore cX8_hasWordBefore 5 2 (some .boolean) := ⟨wd_3_114, wd_1_6, by decide +kernel, by decide +kernel, by decide +kernel⟩
theorem mw_X8_firstWithoutWords : MW yX8_firstWithoutWords cX8_firstWithoutWords 3 1 (some .int) := ⟨wd_3_118, wd_1_6, by decide +kernel, by decide +kernel, by decide +kernel⟩
theorem mw_X8_shifted : MW yX8_shifted cX8_shifted 4 2 (some .long) := ⟨wd_3_136, wd_1_6, by decide +kernel, by decide +kernel, by decide +kernel⟩
theorem mw_X8_scaled : MW yX8_scaled cX8_scaled 4 2 (some .long) := ⟨wd_3_219, wd_1_6, by decide +kernel, by decide +kernel, by decide +kernel⟩
theorem mw_X8_outward : MW yX8_outward cX8_outward 3 1 (some .long) := ⟨wd_4_8, wd_1_6, by decide +kernel, by decide +kernel, by decide +kernel⟩
theorem mw_X8_withoutGain : MW yX8_withoutGain cX8_withoutGain 8 2 (some .long) := ⟨wd_3_132, wd_1_6, by decide +kernel, by decide +kernel, by decide +kernel⟩
theorem mw_X8_farthest : MW yX8_farthest cX8_farthest 7 2 (some .long) := ⟨wd_4_24, wd_1_6, by decide +kernel, by decide +kernel, by decide +kernel⟩
theorem mw_X9_init : MW yX9_init cX9_init 2 1 none := ⟨wd_1_53, wd_1_3, by decide +kernel, by decide +kernel, by decide +kernel⟩
theorem mw_X9_read : MW yX9_read cX9_read 3 0 (some .int) := ⟨wd_2_153, wd_1_3, by decide +kernel, by decide +kernel, by decide +kernel⟩
theorem mw_X9_guardOrUsual : MW yX9_guardOrUsual cX9_guardOrUsual 1 0 (some .int) := ⟨wd_3_65, wd_1_3, by decide +kernel, by decide +kernel, by decide +kernel⟩
theorem mw_X9_placesOrStages : MW yX9_placesOrStages cX9_placesOrStages 1 0 (some .int) := ⟨wd_3_69, wd_1_3, by decide +kernel, by decide +kernel, by decide +kernel⟩
theorem mw_X9_forget : MW yX9_forget cX9_forget 1 0 none := ⟨wd_2_157, wd_1_3, by decide +kernel, by decide +kernel, by decide +kernel⟩
theorem mw_X9_readPiece : MW yX9_readPiece cX9_readPiece 3 0 (some .int) := ⟨wd_2_161, wd_1_3, by decide +kernel, by decide +kernel, by decide +kernel⟩
theorem mw_X9_readRest : MW yX9_readRest cX9_readRest 5 1 (some .int) := ⟨wd_3_7, wd_1_3, by decide +kernel, by decide +kernel, by decide +kernel⟩
theorem mw_X9_mayCome : MW yX9_mayCome cX9_mayCome 2 1 (some .boolean) := ⟨wd_2_235, wd_1_3, by decide +kernel, by decide +kernel, by decide +kernel⟩
theorem mw_X9_take : MW yX9_take cX9_take 3 2 none := ⟨wd_3_11, wd_1_3, by decide +kernel, by decide +kernel, by decide +kernel⟩
theorem mw_X10_init : MW yX10_init cX10_init 2 0 none := ⟨wd_1_28, wd_1_1, by decide +kernel, by decide +kernel, by decide +kernel⟩
theorem mw_X10_feed : MW yX10_feed cX10_feed 7 5 (some .int) := ⟨wd_2_134, wd_1_1, by decide +kernel, by decide +kernel, by decide +kernel⟩
theorem mw_X10_end : MW yX10_end cX10_end 2 1 (some .boolean) := ⟨wd_2_145, wd_1_1, by decide +kernel, by decide +kernel, by decide +kernel⟩
theorem mw_X10_fault : MW yX10_fault cX10_fault 2 1 (some .int) := ⟨wd_2_149, wd_1_1, by decide +kernel, by decide +kernel, by decide +kernel⟩
theorem mw_X10_unit : MW yX10_unit cX10_unit 1 0 (some .int) := ⟨wd_3_61, wd_1_1, by decide +kernel, by decide +kernel, by decide +kernel⟩
theorem mw_X10_rule : MW yX10_rule cX10_rule 2 1 (some .int) := ⟨wd_3_77, wd_1_1, by decide +kernel, by decide +kernel, by decide +kernel⟩
theorem mw_X10_constant : MW yX10_constant cX10_constant 2 1 (some .int) := ⟨wd_3_85, wd_1_1, by decide +kernel, by decide +kernel, by decide +kernel⟩
theorem mw_X10_stage : MW yX10_stage cX10_stage 5 3 (some .int) := ⟨wd_3_89, wd_1_1, by decide +kernel, by decide +kernel, by decide +kernel⟩
theorem mw_X10_mode : MW yX10_mode cX10_mode 3 2 (some .int) := ⟨wd_3_101, wd_1_1, by decide +kernel, by decide +kernel, by decide +kernel⟩
theorem mw_X10_digit : MW yX10_digit cX10_digit 3 2 (some .int) := ⟨wd_3_122, wd_1_1, by decide +kernel, by decide +kernel, by decide +kernel⟩
theorem mw_X10_takenOut : MW yX10_takenOut cX10_takenOut 4 2 (some .int) := ⟨wd_3_127, wd_1_1, by decide +kernel, by decide +kernel, by decide +kernel⟩
theorem mw_X10_value : MW yX10_value cX10_value 6 5 (some .int) := ⟨wd_3_140, wd_1_1, by decide +kernel, by decide +kernel, by decide +kernel⟩
theorem mw_X10_off : MW yX10_off cX10_off 2 1 (some .int) := ⟨wd_4_16, wd_1_1, by decide +kernel, by decide +kernel, by decide +kernel⟩
theorem mw_X10_job : MW yX10_job cX10_job 5 4 (some .int) := ⟨wd_4_30, wd_1_1, by decide +kernel, by decide +kernel, by decide +kernel⟩
theorem mw_X10_orders : MW yX10_orders cX10_orders 1 0 (some .int) := ⟨wd_4_43, wd_1_1, by decide +kernel, by decide +kernel, by decide +kernel⟩
theorem mw_X10_drop : MW yX10_drop cX10_drop 2 1 (some .boolean) := ⟨wd_4_63, wd_1_1, by decide +kernel, by decide +kernel, by decide +kernel⟩
theorem mw_X10_link : MW yX10_link cX10_link 5 4 (some .boolean) := ⟨wd_4_79, wd_1_1, by decide +kernel, by decide +kernel, by decide +kernel⟩
theorem mw_X10_linked : MW yX10_linked cX10_linked 3 2 (some .int) := ⟨wd_4_86, wd_1_1, by decide +kernel, by decide +kernel, by decide +kernel⟩
theorem mw_X10_clock : MW yX10_clock cX10_clock 4 1 (some .int) := ⟨wd_4_90, wd_1_1, by decide +kernel, by decide +kernel, by decide +kernel⟩
theorem mw_X10_hold : MW yX10_hold cX10_hold 2 1 (some .boolean) := ⟨wd_4_125, wd_1_1, by decide +kernel, by decide +kernel, by decide +kernel⟩
theorem mw_X10_told : MW yX10_told cX10_told 3 2 (some .int) := ⟨wd_5_11, wd_1_1, by decide +kernel, by decide +kernel, by decide +kernel⟩
theorem mw_X10_result : MW yX10_result cX10_result 4 2 (some .int) := ⟨wd_4_129, wd_1_1, by decide +kernel, by decide +kernel, by decide +kernel⟩
theorem mw_X10_trace : MW yX10_trace cX10_trace 4 3 (some .long) := ⟨wd_4_133, wd_1_1, by decide +kernel, by decide +kernel, by decide +kernel⟩
theorem mw_X10_signs : MW yX10_signs cX10_signs 2 1 (some .int) := ⟨wd_4_148, wd_1_1, by decide +kernel, by decide +kernel, by decide +kernel⟩
theorem mw_X10_register : MW yX10_register cX10_register 2 1 (some .int) := ⟨wd_4_152, wd_1_1, by decide +kernel, by decide +kernel, by decide +kernel⟩
theorem mw_X10_place : MW yX10_place cX10_place 2 1 (some .int) := ⟨wd_4_160, wd_1_1, by decide +kernel, by decide +kernel, by decide +kernel⟩
theorem mw_X10_allOver : MW yX10_allOver cX10_allOver 3 0 (some .int) := ⟨wd_4_165, wd_1_1, by decide +kernel, by decide +kernel, by decide +kernel⟩
theorem mw_X10_finest : MW yX10_finest cX10_finest 6 5 (some .int) := ⟨wd_4_177, wd_1_1, by decide +kernel, by decide +kernel, by decide +kernel⟩
theorem mw_X10_apart : MW yX10_apart cX10_apart 6 5 (some .long) := ⟨wd_4_185, wd_1_1, by decide +kernel, by decide +kernel, by decide +kernel⟩
theorem mw_X10_fewest : MW yX10_fewest cX10_fewest 4 2 (some .int) := ⟨wd_4_195, wd_1_1, by decide +kernel, by decide +kernel, by decide +kernel⟩
theorem mw_X10_sweep : MW yX10_sweep cX10_sweep 19 5 (some .long) := ⟨wd_4_199, wd_1_1, by decide +kernel, by decide +kernel, by decide +kernel⟩
theorem mw_X10_image : MW yX10_image cX10_image 1 0 (some .int) := ⟨wd_4_204, wd_1_1, by decide +kernel, by decide +kernel, by decide +kernel⟩
theorem mw_X10_back : MW yX10_back cX10_back 1 0 (some .int) := ⟨wd_4_208, wd_1_1, by decide +kernel, by decide +kernel, by decide +kernel⟩
theorem mw_X10_waits : MW yX10_waits cX10_waits 2 1 (some .int) := ⟨wd_4_212, wd_1_1, by decide +kernel, by decide +kernel, by decide +kernel⟩
theorem mw_X10_status : MW yX10_status cX10_status 2 1 (some .int) := ⟨wd_4_217, wd_1_1, by decide +kernel, by decide +kernel, by decide +kernel⟩
theorem mw_X10_most : MW yX10_most cX10_most 2 1 (some .long) := ⟨wd_4_221, wd_1_1, by decide +kernel, by decide +kernel, by decide +kernel⟩
theorem mw_X10_count : MW yX10_count cX10_count 2 1 (some .int) := ⟨wd_5_3, wd_1_1, by decide +kernel, by decide +kernel, by decide +kernel⟩
theorem mw_X10_isMode : MW yX10_isMode cX10_isMode 2 1 (some .boolean) := ⟨wd_3_93, wd_1_1, by decide +kernel, by decide +kernel, by decide +kernel⟩
theorem mw_X10_isKind : MW yX10_isKind cX10_isKind 2 1 (some .boolean) := ⟨wd_3_144, wd_1_1, by decide +kernel, by decide +kernel, by decide +kernel⟩
theorem mw_X10_isBounded : MW yX10_isBounded cX10_isBounded 2 1 (some .boolean) := ⟨wd_4_20, wd_1_1, by decide +kernel, by decide +kernel, by decide +kernel⟩
theorem mw_X10_isJob : MW yX10_isJob cX10_isJob 2 1 (some .boolean) := ⟨wd_4_67, wd_1_1, by decide +kernel, by decide +kernel, by decide +kernel⟩
theorem mw_X10_hasBegun : MW yX10_hasBegun cX10_hasBegun 2 1 (some .boolean) := ⟨wd_4_137, wd_1_1, by decide +kernel, by decide +kernel, by decide +kernel⟩
theorem mw_X10_isOperand : MW yX10_isOperand cX10_isOperand 1 1 (some .boolean) := ⟨wd_4_82, wd_1_1, by decide +kernel, by decide +kernel, by decide +kernel⟩
theorem mw_X10_isEither : MW yX10_isEither cX10_isEither 1 1 (some .boolean) := ⟨wd_3_148, wd_1_1, by decide +kernel, by decide +kernel, by decide +kernel⟩
theorem mw_X10_kindOf : MW yX10_kindOf cX10_kindOf 2 1 (some (.object "TurnShifts$Kind")) := ⟨wd_5_81, wd_1_1, by decide +kernel, by decide +kernel, by decide +kernel⟩
theorem mw_X10_refuse : MW yX10_refuse cX10_refuse 2 1 (some .int) := ⟨wd_4_34, wd_1_1, by decide +kernel, by decide +kernel, by decide +kernel⟩
theorem mw_X10_allow : MW yX10_allow cX10_allow 2 1 (some .boolean) := ⟨wd_4_71, wd_1_1, by decide +kernel, by decide +kernel, by decide +kernel⟩
theorem mw_X10_linesFit : MW yX10_linesFit cX10_linesFit 3 0 (some .boolean) := ⟨wd_4_47, wd_1_1, by decide +kernel, by decide +kernel, by decide +kernel⟩
theorem mw_X10_takeLines : MW yX10_takeLines cX10_takeLines 6 0 none := ⟨wd_4_55, wd_1_1, by decide +kernel, by decide +kernel, by decide +kernel⟩
theorem mw_X10_solveBoth : MW yX10_solveBoth cX10_solveBoth 9 4 (some .boolean) := ⟨wd_4_181, wd_1_1, by decide +kernel, by decide +kernel, by decide +kernel⟩
theorem mw_X10_distance : MW yX10_distance cX10_distance 2 1 (some .long) := ⟨wd_4_190, wd_1_1, by decide +kernel, by decide +kernel, by decide +kernel⟩
theorem mw_X11_thrown : MW yX11_thrown cX11_thrown 1 0 (some .int) := ⟨wd_5_85, wd_1_9, by decide +kernel, by decide +kernel, by decide +kernel⟩
theorem mw_X11_isIn : MW yX11_isIn cX11_isIn 6 3 (some .boolean) := ⟨wd_5_155, wd_1_9, by decide +kernel, by decide +kernel, by decide +kernel⟩
theorem mw_X11_bytesOf : MW yX11_bytesOf cX11_bytesOf 3 1 (some .int) := ⟨wd_5_92, wd_1_9, by decide +kernel, by decide +kernel, by decide +kernel⟩
theorem mw_X11_brings : MW yX11_brings cX11_brings 4 1 none := ⟨wd_5_97, wd_1_9, by decide +kernel, by decide +kernel, by decide +kernel⟩
theorem mw_X11_feed : MW yX11_feed cX11_feed 6 5 (some .int) := ⟨wd_5_89, wd_1_9, by decide +kernel, by decide +kernel, by decide +kernel⟩
theorem mw_X11_end : MW yX11_end cX11_end 2 1 (some .boolean) := ⟨wd_5_101, wd_1_9, by decide +kernel, by decide +kernel, by decide +kernel⟩
theorem mw_X11_here : MW yX11_here cX11_here 1 0 (some .int) := ⟨wd_5_121, wd_1_9, by decide +kernel, by decide +kernel, by decide +kernel⟩
theorem mw_X11_look : MW yX11_look cX11_look 1 0 (some .int) := ⟨wd_5_117, wd_1_9, by decide +kernel, by decide +kernel, by decide +kernel⟩
theorem mw_X11_fails : MW yX11_fails cX11_fails 2 1 none := ⟨wd_5_145, wd_1_9, by decide +kernel, by decide +kernel, by decide +kernel⟩
theorem mw_X11_isDigit : MW yX11_isDigit cX11_isDigit 1 1 (some .boolean) := ⟨wd_5_152, wd_1_9, by decide +kernel, by decide +kernel, by decide +kernel⟩
theorem mw_X11_wordEnd : MW yX11_wordEnd cX11_wordEnd 2 0 (some .int) := ⟨wd_5_125, wd_1_9, by decide +kernel, by decide +kernel, by decide +kernel⟩
theorem mw_X11_isWord : MW yX11_isWord cX11_isWord 4 2 (some .boolean) := ⟨wd_5_134, wd_1_9, by decide +kernel, by decide +kernel, by decide +kernel⟩
theorem mw_X11_wordHere : MW yX11_wordHere cX11_wordHere 2 1 (some .int) := ⟨wd_5_129, wd_1_9, by decide +kernel, by decide +kernel, by decide +kernel⟩
theorem mw_X11_number : MW yX11_number cX11_number 6 2 (some .int) := ⟨wd_5_149, wd_1_9, by decide +kernel, by decide +kernel, by decide +kernel⟩
theorem mw_X11_piece : MW yX11_piece cX11_piece 5 0 none := ⟨wd_5_113, wd_1_9, by decide +kernel, by decide +kernel, by decide +kernel⟩
theorem mw_X11_readsUnit : MW yX11_readsUnit cX11_readsUnit 2 0 (some .int) := ⟨wd_5_109, wd_1_9, by decide +kernel, by decide +kernel, by decide +kernel⟩
theorem mw_X11_fault : MW yX11_fault cX11_fault 2 1 (some .int) := ⟨wd_5_105, wd_1_9, by decide +kernel, by decide +kernel, by decide +kernel⟩
theorem mw_X11_kindHere : MW yX11_kindHere cX11_kindHere 2 1 (some .int) := ⟨wd_5_167, wd_1_9, by decide +kernel, by decide +kernel, by decide +kernel⟩
theorem mw_X11_digits : MW yX11_digits cX11_digits 2 0 (some .int) := ⟨wd_5_187, wd_1_9, by decide +kernel, by decide +kernel, by decide +kernel⟩
theorem mw_X11_operand : MW yX11_operand cX11_operand 7 2 none := ⟨wd_5_183, wd_1_9, by decide +kernel, by decide +kernel, by decide +kernel⟩
theorem mw_X11_namesOf : MW yX11_namesOf cX11_namesOf 1 1 (some .int) := ⟨wd_5_179, wd_1_9, by decide +kernel, by decide +kernel, by decide +kernel⟩
theorem mw_X11_orderLine : MW yX11_orderLine cX11_orderLine 6 0 none := ⟨wd_5_163, wd_1_9, by decide +kernel, by decide +kernel, by decide +kernel⟩
theorem mw_X11_readsOrders : MW yX11_readsOrders cX11_readsOrders 1 0 (some .int) := ⟨wd_5_159, wd_1_9, by decide +kernel, by decide +kernel, by decide +kernel⟩
theorem mw_X11_terms : MW yX11_terms cX11_terms 7 2 (some .long) := ⟨wd_5_225, wd_1_9, by decide +kernel, by decide +kernel, by decide +kernel⟩
theorem mw_X11_fifth : MW yX11_fifth cX11_fifth 10 2 (some .long) := ⟨wd_5_209, wd_1_9, by decide +kernel, by decide +kernel, by decide +kernel⟩
theorem mw_X11_eighth : MW yX11_eighth cX11_eighth 0 0 (some .long) := ⟨wd_5_204, wd_1_9, by decide +kernel, by decide +kernel, by decide +kernel⟩
theorem mw_X11_by : MW yX11_by cX11_by 3 2 (some .long) := ⟨wd_5_214, wd_1_9, by decide +kernel, by decide +kernel, by decide +kernel⟩
theorem mw_X11_laysShifts : MW yX11_laysShifts cX11_laysShifts 5 0 none := ⟨wd_5_196, wd_1_9, by decide +kernel, by decide +kernel, by decide +kernel⟩
theorem mw_X11_angleOf : MW yX11_angleOf cX11_angleOf 3 3 (some .long) := ⟨wd_5_222, wd_1_9, by decide +kernel, by decide +kernel, by decide +kernel⟩
theorem mw_X11_row : MW yX11_row cX11_row 3 2 (some .int) := ⟨wd_5_219, wd_1_9, by decide +kernel, by decide +kernel, by decide +kernel⟩
theorem mw_X11_laysGain : MW yX11_laysGain cX11_laysGain 14 2 none := ⟨wd_5_229, wd_1_9, by decide +kernel, by decide +kernel, by decide +kernel⟩
theorem mw_X11_lays : MW yX11_lays cX11_lays 8 5 none := ⟨wd_5_200, wd_1_9, by decide +kernel, by decide +kernel, by decide +kernel⟩
theorem mw_X11_init : MW yX11_init cX11_init 1 0 none := ⟨wd_5_191, wd_1_9, by decide +kernel, by decide +kernel, by decide +kernel⟩
theorem mw_X11_unit : MW yX11_unit cX11_unit 1 0 (some .int) := ⟨wd_6_138, wd_1_9, by decide +kernel, by decide +kernel, by decide +kernel⟩
theorem mw_X11_constant : MW yX11_constant cX11_constant 2 1 (some .int) := ⟨wd_6_142, wd_1_9, by decide +kernel, by decide +kernel, by decide +kernel⟩
theorem mw_X11_isMode : MW yX11_isMode cX11_isMode 2 1 (some .boolean) := ⟨wd_6_150, wd_1_9, by decide +kernel, by decide +kernel, by decide +kernel⟩
theorem mw_X11_isWordless : MW yX11_isWordless cX11_isWordless 4 2 (some .boolean) := ⟨wd_6_154, wd_1_9, by decide +kernel, by decide +kernel, by decide +kernel⟩
theorem mw_X11_stage : MW yX11_stage cX11_stage 4 3 (some .int) := ⟨wd_6_146, wd_1_9, by decide +kernel, by decide +kernel, by decide +kernel⟩
theorem mw_X11_words : MW yX11_words cX11_words 6 1 (some .int) := ⟨wd_6_166, wd_1_9, by decide +kernel, by decide +kernel, by decide +kernel⟩
theorem mw_X11_wordlessFrom : MW yX11_wordlessFrom cX11_wordlessFrom 3 1 (some .int) := ⟨wd_6_170, wd_1_9, by decide +kernel, by decide +kernel, by decide +kernel⟩
theorem mw_X11_digitsIn : MW yX11_digitsIn cX11_digitsIn 4 1 (some .int) := ⟨wd_6_162, wd_1_9, by decide +kernel, by decide +kernel, by decide +kernel⟩
theorem mw_X11_mode : MW yX11_mode cX11_mode 3 2 (some .int) := ⟨wd_6_158, wd_1_9, by decide +kernel, by decide +kernel, by decide +kernel⟩
theorem mw_X11_digit : MW yX11_digit cX11_digit 3 2 (some .int) := ⟨wd_6_174, wd_1_9, by decide +kernel, by decide +kernel, by decide +kernel⟩
theorem mw_X11_shifted : MW yX11_shifted cX11_shifted 5 3 (some .long) := ⟨wd_6_190, wd_1_9, by decide +kernel, by decide +kernel, by decide +kernel⟩
theorem mw_X11_takenOut : MW yX11_takenOut cX11_takenOut 11 3 (some .long) := ⟨wd_6_186, wd_1_9, by decide +kernel, by decide +kernel, by decide +kernel⟩
theorem mw_X11_takenOut_ : MW yX11_takenOut_ cX11_takenOut_ 3 2 (some .int) := ⟨wd_6_180, wd_1_9, by decide +kernel, by decide +kernel, by decide +kernel⟩
theorem mw_X11_isTurning : MW yX11_isTurning cX11_isTurning 1 1 (some .boolean) := ⟨wd_7_4, wd_1_9, by decide +kernel, by decide +kernel, by decide +kernel⟩
theorem mw_X11_isTo : MW yX11_isTo cX11_isTo 3 2 (some .boolean) := ⟨wd_6_210, wd_1_9, by decide +kernel, by decide +kernel, by decide +kernel⟩
theorem mw_X11_bitsOf : MW yX11_bitsOf cX11_bitsOf 3 1 (some .int) := ⟨wd_6_224, wd_1_9, by decide +kernel, by decide +kernel, by decide +kernel⟩
theorem mw_X11_isGood : MW yX11_isGood cX11_isGood 10 5 (some .boolean) := ⟨wd_6_207, wd_1_9, by decide +kernel, by decide +kernel, by decide +kernel⟩
theorem mw_X11_quarters : MW yX11_quarters cX11_quarters 4 2 (some .int) := ⟨wd_6_219, wd_1_9, by decide +kernel, by decide +kernel, by decide +kernel⟩
theorem mw_X11_turns : MW yX11_turns cX11_turns 7 3 none := ⟨wd_6_235, wd_1_9, by decide +kernel, by decide +kernel, by decide +kernel⟩
theorem mw_X11_moved : MW yX11_moved cX11_moved 5 3 (some .long) := ⟨wd_6_228, wd_1_9, by decide +kernel, by decide +kernel, by decide +kernel⟩
theorem mw_X11_begins : MW yX11_begins cX11_begins 14 5 none := ⟨wd_6_215, wd_1_9, by decide +kernel, by decide +kernel, by decide +kernel⟩
theorem mw_X11_steps : MW yX11_steps cX11_steps 13 3 (some .boolean) := ⟨wd_6_239, wd_1_9, by decide +kernel, by decide +kernel, by decide +kernel⟩
theorem mw_X11_out : MW yX11_out cX11_out 4 2 (some .long) := ⟨wd_7_13, wd_1_9, by decide +kernel, by decide +kernel, by decide +kernel⟩
theorem mw_X11_ends : MW yX11_ends cX11_ends 3 2 none := ⟨wd_7_9, wd_1_9, by decide +kernel, by decide +kernel, by decide +kernel⟩
theorem mw_X11_comes : MW yX11_comes cX11_comes 11 5 (some .boolean) := ⟨wd_6_203, wd_1_9, by decide +kernel, by decide +kernel, by decide +kernel⟩
theorem mw_X11_isKind : MW yX11_isKind cX11_isKind 2 1 (some .boolean) := ⟨wd_6_198, wd_1_9, by decide +kernel, by decide +kernel, by decide +kernel⟩
theorem mw_X11_value : MW yX11_value cX11_value 6 5 (some .int) := ⟨wd_6_194, wd_1_9, by decide +kernel, by decide +kernel, by decide +kernel⟩
theorem mw_X11_finest : MW yX11_finest cX11_finest 7 5 (some .int) := ⟨wd_7_17, wd_1_9, by decide +kernel, by decide +kernel, by decide +kernel⟩
theorem mw_X11_apart : MW yX11_apart cX11_apart 9 5 (some .long) := ⟨wd_7_21, wd_1_9, by decide +kernel, by decide +kernel, by decide +kernel⟩
theorem mw_X11_sweep : MW yX11_sweep cX11_sweep 23 5 (some .long) := ⟨wd_7_26, wd_1_9, by decide +kernel, by decide +kernel, by decide +kernel⟩
theorem mw_X11_offBy : MW yX11_offBy cX11_offBy 8 2 (some .long) := ⟨wd_7_40, wd_1_9, by decide +kernel, by decide +kernel, by decide +kernel⟩
theorem mw_X11_hasOff : MW yX11_hasOff cX11_hasOff 2 1 (some .boolean) := ⟨wd_7_36, wd_1_9, by decide +kernel, by decide +kernel, by decide +kernel⟩
theorem mw_X11_off : MW yX11_off cX11_off 2 1 (some .int) := ⟨wd_7_32, wd_1_9, by decide +kernel, by decide +kernel, by decide +kernel⟩
theorem mw_X11_fewest : MW yX11_fewest cX11_fewest 4 2 (some .int) := ⟨wd_7_45, wd_1_9, by decide +kernel, by decide +kernel, by decide +kernel⟩
theorem mw_X11_of : MW yX11_of cX11_of 3 2 (some .int) := ⟨wd_7_81, wd_1_9, by decide +kernel, by decide +kernel, by decide +kernel⟩
theorem mw_X11_isJob : MW yX11_isJob cX11_isJob 2 1 (some .boolean) := ⟨wd_7_77, wd_1_9, by decide +kernel, by decide +kernel, by decide +kernel⟩
theorem mw_X11_refuse : MW yX11_refuse cX11_refuse 2 1 (some .int) := ⟨wd_7_53, wd_1_9, by decide +kernel, by decide +kernel, by decide +kernel⟩
theorem mw_X11_job : MW yX11_job cX11_job 5 4 (some .int) := ⟨wd_7_49, wd_1_9, by decide +kernel, by decide +kernel, by decide +kernel⟩
theorem mw_X11_isLinked : MW yX11_isLinked cX11_isLinked 2 1 (some .boolean) := ⟨wd_7_69, wd_1_9, by decide +kernel, by decide +kernel, by decide +kernel⟩
theorem mw_X11_areGood : MW yX11_areGood cX11_areGood 3 0 (some .boolean) := ⟨wd_7_65, wd_1_9, by decide +kernel, by decide +kernel, by decide +kernel⟩
theorem mw_X11_adds : MW yX11_adds cX11_adds 7 4 none := ⟨wd_7_57, wd_1_9, by decide +kernel, by decide +kernel, by decide +kernel⟩
theorem mw_X11_orders : MW yX11_orders cX11_orders 5 0 (some .int) := ⟨wd_7_61, wd_1_9, by decide +kernel, by decide +kernel, by decide +kernel⟩
theorem mw_X11_isWanted : MW yX11_isWanted cX11_isWanted 4 1 (some .boolean) := ⟨wd_7_85, wd_1_9, by decide +kernel, by decide +kernel, by decide +kernel⟩
theorem mw_X11_drop : MW yX11_drop cX11_drop 4 1 (some .boolean) := ⟨wd_7_73, wd_1_9, by decide +kernel, by decide +kernel, by decide +kernel⟩
theorem mw_X11_link : MW yX11_link cX11_link 7 4 (some .boolean) := ⟨wd_7_89, wd_1_9, by decide +kernel, by decide +kernel, by decide +kernel⟩
theorem mw_X11_linked : MW yX11_linked cX11_linked 3 2 (some .int) := ⟨wd_7_93, wd_1_9, by decide +kernel, by decide +kernel, by decide +kernel⟩
theorem mw_X11_takes : MW yX11_takes cX11_takes 3 1 none := ⟨wd_7_110, wd_1_9, by decide +kernel, by decide +kernel, by decide +kernel⟩
theorem mw_X11_puts : MW yX11_puts cX11_puts 3 1 none := ⟨wd_7_114, wd_1_9, by decide +kernel, by decide +kernel, by decide +kernel⟩
theorem mw_X11_goesOn : MW yX11_goesOn cX11_goesOn 2 1 (some .int) := ⟨wd_7_106, wd_1_9, by decide +kernel, by decide +kernel, by decide +kernel⟩
theorem mw_X11_firstWaiting : MW yX11_firstWaiting cX11_firstWaiting 2 0 (some .int) := ⟨wd_7_118, wd_1_9, by decide +kernel, by decide +kernel, by decide +kernel⟩
theorem mw_X11_standsIn : MW yX11_standsIn cX11_standsIn 3 1 (some .int) := ⟨wd_7_122, wd_1_9, by decide +kernel, by decide +kernel, by decide +kernel⟩
theorem mw_X11_hangs : MW yX11_hangs cX11_hangs 3 1 (some .boolean) := ⟨wd_7_126, wd_1_9, by decide +kernel, by decide +kernel, by decide +kernel⟩
theorem mw_X11_comesIn : MW yX11_comesIn cX11_comesIn 5 1 none := ⟨wd_7_130, wd_1_9, by decide +kernel, by decide +kernel, by decide +kernel⟩
theorem mw_X11_ticks : MW yX11_ticks cX11_ticks 3 0 (some .int) := ⟨wd_7_102, wd_1_9, by decide +kernel, by decide +kernel, by decide +kernel⟩
theorem mw_X11_clock : MW yX11_clock cX11_clock 4 1 (some .int) := ⟨wd_7_97, wd_1_9, by decide +kernel, by decide +kernel, by decide +kernel⟩
theorem mw_X11_hold : MW yX11_hold cX11_hold 3 1 (some .boolean) := ⟨wd_7_134, wd_1_9, by decide +kernel, by decide +kernel, by decide +kernel⟩
theorem mw_X11_howMany : MW yX11_howMany cX11_howMany 4 1 (some .int) := ⟨wd_7_142, wd_1_9, by decide +kernel, by decide +kernel, by decide +kernel⟩
theorem mw_X11_rule : MW yX11_rule cX11_rule 2 1 (some .int) := ⟨wd_7_138, wd_1_9, by decide +kernel, by decide +kernel, by decide +kernel⟩
theorem mw_X11_told : MW yX11_told cX11_told 3 2 (some .int) := ⟨wd_7_146, wd_1_9, by decide +kernel, by decide +kernel, by decide +kernel⟩
theorem mw_X11_result : MW yX11_result cX11_result 3 2 (some .int) := ⟨wd_7_151, wd_1_9, by decide +kernel, by decide +kernel, by decide +kernel⟩
theorem mw_X11_hasBegun : MW yX11_hasBegun cX11_hasBegun 2 1 (some .boolean) := ⟨wd_7_159, wd_1_9, by decide +kernel, by decide +kernel, by decide +kernel⟩
theorem mw_X11_trace : MW yX11_trace cX11_trace 4 3 (some .long) := ⟨wd_7_155, wd_1_9, by decide +kernel, by decide +kernel, by decide +kernel⟩
theorem mw_X11_signs : MW yX11_signs cX11_signs 2 1 (some .int) := ⟨wd_7_163, wd_1_9, by decide +kernel, by decide +kernel, by decide +kernel⟩
theorem mw_X11_register : MW yX11_register cX11_register 3 1 (some .int) := ⟨wd_7_167, wd_1_9, by decide +kernel, by decide +kernel, by decide +kernel⟩
theorem mw_X11_place : MW yX11_place cX11_place 2 1 (some .int) := ⟨wd_7_171, wd_1_9, by decide +kernel, by decide +kernel, by decide +kernel⟩
theorem mw_X11_copies : MW yX11_copies cX11_copies 3 2 none := ⟨wd_7_178, wd_1_9, by decide +kernel, by decide +kernel, by decide +kernel⟩
theorem mw_X11_copies_ : MW yX11_copies_ cX11_copies_ 3 2 none := ⟨wd_7_181, wd_1_9, by decide +kernel, by decide +kernel, by decide +kernel⟩
theorem mw_X11_allOver : MW yX11_allOver cX11_allOver 5 0 (some .int) := ⟨wd_7_175, wd_1_9, by decide +kernel, by decide +kernel, by decide +kernel⟩
theorem mw_X11_image : MW yX11_image cX11_image 1 0 (some .int) := ⟨wd_7_185, wd_1_9, by decide +kernel, by decide +kernel, by decide +kernel⟩
theorem mw_X11_back : MW yX11_back cX11_back 1 0 (some .int) := ⟨wd_7_189, wd_1_9, by decide +kernel, by decide +kernel, by decide +kernel⟩
theorem mw_X11_waits : MW yX11_waits cX11_waits 4 1 (some .int) := ⟨wd_7_193, wd_1_9, by decide +kernel, by decide +kernel, by decide +kernel⟩
theorem mw_X11_status : MW yX11_status cX11_status 2 1 (some .int) := ⟨wd_7_197, wd_1_9, by decide +kernel, by decide +kernel, by decide +kernel⟩
theorem mw_X11_most : MW yX11_most cX11_most 7 1 (some .long) := ⟨wd_7_201, wd_1_9, by decide +kernel, by decide +kernel, by decide +kernel⟩
theorem mw_X11_count : MW yX11_count cX11_count 2 1 (some .int) := ⟨wd_7_206, wd_1_9, by decide +kernel, by decide +kernel, by decide +kernel⟩
theorem mw_J6_numberOfLeadingZeros_0f7a4 : MW yJ6_numberOfLeadingZeros_0f7a4 cJ6_numberOfLeadingZeros_0f7a4 2 1 (some .int) := ⟨wd_3_214, wd_1_18, by decide +kernel, by decide +kernel, by decide +kernel⟩
theorem mw_J13_numberOfLeadingZeros_95d88 : MW yJ13_numberOfLeadingZeros_95d88 cJ13_numberOfLeadingZeros_95d88 3 1 (some .int) := ⟨wd_3_211, wd_1_17, by decide +kernel, by decide +kernel, by decide +kernel⟩
theorem mw_J9_floorDiv_7cf53 : MW yJ9_floorDiv_7cf53 cJ9_floorDiv_7cf53 3 2 (some .int) := ⟨wd_6_231, wd_1_15, by decide +kernel, by decide +kernel, by decide +kernel⟩
theorem mw_J9_floorDiv_f86c9 : MW yJ9_floorDiv_f86c9 cJ9_floorDiv_f86c9 6 2 (some .long) := ⟨wd_3_187, wd_1_15, by decide +kernel, by decide +kernel, by decide +kernel⟩
theorem mw_J9_abs_067f4 : MW yJ9_abs_067f4 cJ9_abs_067f4 2 1 (some .long) := ⟨wd_3_172, wd_1_15, by decide +kernel, by decide +kernel, by decide +kernel⟩
theorem mw_J9_max_f86c9 : MW yJ9_max_f86c9 cJ9_max_f86c9 4 2 (some .long) := ⟨wd_4_231, wd_1_15, by decide +kernel, by decide +kernel, by decide +kernel⟩
theorem mw_J0_length_8abf5 : MW yJ0_length_8abf5 cJ0_length_8abf5 1 0 (some .int) := ⟨wd_2_187, wd_1_10, by decide +kernel, by decide +kernel, by decide +kernel⟩
theorem mw_J0_charAt_5068e : MW yJ0_charAt_5068e cJ0_charAt_5068e 2 1 (some .char) := ⟨wd_2_197, wd_1_10, by decide +kernel, by decide +kernel, by decide +kernel⟩
theorem mw_J0_coder_7d493 : MW yJ0_coder_7d493 cJ0_coder_7d493 1 0 (some .byte) := ⟨wd_2_191, wd_1_10, by decide +kernel, by decide +kernel, by decide +kernel⟩
theorem mw_J0_isLatin1_aae02 : MW yJ0_isLatin1_aae02 cJ0_isLatin1_aae02 1 0 (some .boolean) := ⟨wd_2_201, wd_1_10, by decide +kernel, by decide +kernel, by decide +kernel⟩
theorem mw_J0_checkIndex_df160 : MW yJ0_checkIndex_df160 cJ0_checkIndex_df160 2 2 none := ⟨wd_2_207, wd_1_10, by decide +kernel, by decide +kernel, by decide +kernel⟩
theorem mw_J1_charAt_3b067 : MW yJ1_charAt_3b067 cJ1_charAt_3b067 2 2 (some .char) := ⟨wd_2_204, wd_1_11, by decide +kernel, by decide +kernel, by decide +kernel⟩
theorem mw_J2_getChar_3b067 : MW yJ2_getChar_3b067 cJ2_getChar_3b067 2 2 (some .char) := ⟨wd_2_225, wd_1_13, by decide +kernel, by decide +kernel, by decide +kernel⟩
theorem mw_J2_length_9d52b : MW yJ2_length_9d52b cJ2_length_9d52b 1 1 (some .int) := ⟨wd_2_221, wd_1_13, by decide +kernel, by decide +kernel, by decide +kernel⟩
theorem mw_J2_charAt_3b067 : MW yJ2_charAt_3b067 cJ2_charAt_3b067 2 2 (some .char) := ⟨wd_2_215, wd_1_13, by decide +kernel, by decide +kernel, by decide +kernel⟩
theorem mw_J2_checkIndex_2214a : MW yJ2_checkIndex_2214a cJ2_checkIndex_2214a 2 2 none := ⟨wd_2_218, wd_1_13, by decide +kernel, by decide +kernel, by decide +kernel⟩
theorem mw_J3_checkIndex_8e157 : MW yJ3_checkIndex_8e157 cJ3_checkIndex_8e157 3 3 (some .int) := ⟨wd_2_212, wd_1_12, by decide +kernel, by decide +kernel, by decide +kernel⟩
