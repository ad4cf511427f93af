/-! the words of the tables that every method may have, and each by its place -/
def hm_ws : List Cond := lw_tbl.filter goodWord
theorem kw_0 : Cond.selects RX3 yX3_isFull yX3_isFull ∈ hm_ws := List.mem_filter.mpr ⟨List.mem_of_getElem? (i := 0) rfl, rfl⟩
theorem kw_1 : Cond.selects RX2 yX2_finish yX2_finish ∈ hm_ws := List.mem_filter.mpr ⟨List.mem_of_getElem? (i := 1) rfl, rfl⟩
theorem kw_2 : Cond.selects RX3 yX3_keep yX3_keep ∈ hm_ws := List.mem_filter.mpr ⟨List.mem_of_getElem? (i := 2) rfl, rfl⟩
theorem kw_3 : Cond.selects RX2 yX2_limbAt yX2_limbAt ∈ hm_ws := List.mem_filter.mpr ⟨List.mem_of_getElem? (i := 3) rfl, rfl⟩
theorem kw_4 : Cond.selects RX1 yX1_load yX1_load ∈ hm_ws := List.mem_filter.mpr ⟨List.mem_of_getElem? (i := 4) rfl, rfl⟩
theorem kw_5 : Cond.selects RX1 yX1_cell yX1_cell ∈ hm_ws := List.mem_filter.mpr ⟨List.mem_of_getElem? (i := 5) rfl, rfl⟩
theorem kw_6 : Cond.selects RX1 yX1_pivotRow yX1_pivotRow ∈ hm_ws := List.mem_filter.mpr ⟨List.mem_of_getElem? (i := 6) rfl, rfl⟩
theorem kw_7 : Cond.selects RX1 yX1_swapRows yX1_swapRows ∈ hm_ws := List.mem_filter.mpr ⟨List.mem_of_getElem? (i := 7) rfl, rfl⟩
theorem kw_8 : Cond.selects RX1 yX1_clearBelow yX1_clearBelow ∈ hm_ws := List.mem_filter.mpr ⟨List.mem_of_getElem? (i := 8) rfl, rfl⟩
theorem kw_9 : Cond.selects RX1 yX1_reduce yX1_reduce ∈ hm_ws := List.mem_filter.mpr ⟨List.mem_of_getElem? (i := 9) rfl, rfl⟩
theorem kw_10 : Cond.selects RX2 yX2_setAmounts yX2_setAmounts ∈ hm_ws := List.mem_filter.mpr ⟨List.mem_of_getElem? (i := 10) rfl, rfl⟩
theorem kw_11 : Cond.selects RX0 yX0_nextLimb yX0_nextLimb ∈ hm_ws := List.mem_filter.mpr ⟨List.mem_of_getElem? (i := 11) rfl, rfl⟩
theorem kw_12 : Cond.selects RX0 yX0_guessLimb yX0_guessLimb ∈ hm_ws := List.mem_filter.mpr ⟨List.mem_of_getElem? (i := 12) rfl, rfl⟩
theorem kw_13 : Cond.selects RX0 yX0_takeAway yX0_takeAway ∈ hm_ws := List.mem_filter.mpr ⟨List.mem_of_getElem? (i := 13) rfl, rfl⟩
theorem kw_14 : Cond.selects RX0 yX0_giveBack yX0_giveBack ∈ hm_ws := List.mem_filter.mpr ⟨List.mem_of_getElem? (i := 14) rfl, rfl⟩
theorem kw_16 : Cond.selects RX3 yX3_known yX3_known ∈ hm_ws := List.mem_filter.mpr ⟨List.mem_of_getElem? (i := 16) rfl, rfl⟩
theorem kw_17 : Cond.selects RX4 yX4_loadLong yX4_loadLong ∈ hm_ws := List.mem_filter.mpr ⟨List.mem_of_getElem? (i := 17) rfl, rfl⟩
theorem kw_18 : Cond.selects RX4 yX4_clear yX4_clear ∈ hm_ws := List.mem_filter.mpr ⟨List.mem_of_getElem? (i := 18) rfl, rfl⟩
theorem kw_19 : Cond.selects RX4 yX4_keep yX4_keep ∈ hm_ws := List.mem_filter.mpr ⟨List.mem_of_getElem? (i := 19) rfl, rfl⟩
theorem kw_20 : Cond.selects RX4 yX4_isTooWide yX4_isTooWide ∈ hm_ws := List.mem_filter.mpr ⟨List.mem_of_getElem? (i := 20) rfl, rfl⟩
theorem kw_21 : Cond.selects RX4 yX4_areKnown yX4_areKnown ∈ hm_ws := List.mem_filter.mpr ⟨List.mem_of_getElem? (i := 21) rfl, rfl⟩
theorem kw_22 : Cond.selects RX4 yX4_isKnown yX4_isKnown ∈ hm_ws := List.mem_filter.mpr ⟨List.mem_of_getElem? (i := 22) rfl, rfl⟩
theorem kw_23 : Cond.selects RX4 yX4_load yX4_load ∈ hm_ws := List.mem_filter.mpr ⟨List.mem_of_getElem? (i := 23) rfl, rfl⟩
theorem kw_24 : Cond.selects RX4 yX4_loadOther yX4_loadOther ∈ hm_ws := List.mem_filter.mpr ⟨List.mem_of_getElem? (i := 24) rfl, rfl⟩
theorem kw_25 : Cond.selects RX4 yX4_grow yX4_grow ∈ hm_ws := List.mem_filter.mpr ⟨List.mem_of_getElem? (i := 25) rfl, rfl⟩
theorem kw_26 : Cond.selects RX4 yX4_compare yX4_compare ∈ hm_ws := List.mem_filter.mpr ⟨List.mem_of_getElem? (i := 26) rfl, rfl⟩
theorem kw_27 : Cond.selects RX4 yX4_shrink yX4_shrink ∈ hm_ws := List.mem_filter.mpr ⟨List.mem_of_getElem? (i := 27) rfl, rfl⟩
theorem kw_28 : Cond.selects RX4 yX4_multiply yX4_multiply ∈ hm_ws := List.mem_filter.mpr ⟨List.mem_of_getElem? (i := 28) rfl, rfl⟩
theorem kw_29 : Cond.selects RX4 yX4_divide yX4_divide ∈ hm_ws := List.mem_filter.mpr ⟨List.mem_of_getElem? (i := 29) rfl, rfl⟩
theorem kw_30 : Cond.selects RX4 yX4_reaches yX4_reaches ∈ hm_ws := List.mem_filter.mpr ⟨List.mem_of_getElem? (i := 30) rfl, rfl⟩
theorem kw_31 : Cond.selects RX4 yX4_multiplyBy yX4_multiplyBy ∈ hm_ws := List.mem_filter.mpr ⟨List.mem_of_getElem? (i := 31) rfl, rfl⟩
theorem kw_32 : Cond.selects RX4 yX4_divideBy yX4_divideBy ∈ hm_ws := List.mem_filter.mpr ⟨List.mem_of_getElem? (i := 32) rfl, rfl⟩
theorem kw_33 : Cond.selects RX4 yX4_minorOf yX4_minorOf ∈ hm_ws := List.mem_filter.mpr ⟨List.mem_of_getElem? (i := 33) rfl, rfl⟩
theorem kw_34 : Cond.selects RX4 yX4_product yX4_product ∈ hm_ws := List.mem_filter.mpr ⟨List.mem_of_getElem? (i := 34) rfl, rfl⟩
theorem kw_35 : Cond.selects RX4 yX4_addTo yX4_addTo ∈ hm_ws := List.mem_filter.mpr ⟨List.mem_of_getElem? (i := 35) rfl, rfl⟩
theorem kw_36 : Cond.initialized RL ∈ hm_ws := List.mem_filter.mpr ⟨List.mem_of_getElem? (i := 36) rfl, rfl⟩
theorem kw_37 : Cond.initialized RX3 ∈ hm_ws := List.mem_filter.mpr ⟨List.mem_of_getElem? (i := 37) rfl, rfl⟩
theorem kw_38 : Cond.initialized RX2 ∈ hm_ws := List.mem_filter.mpr ⟨List.mem_of_getElem? (i := 38) rfl, rfl⟩
theorem kw_39 : Cond.initialized RJ9 ∈ hm_ws := List.mem_filter.mpr ⟨List.mem_of_getElem? (i := 39) rfl, rfl⟩
theorem kw_40 : Cond.initialized RX0 ∈ hm_ws := List.mem_filter.mpr ⟨List.mem_of_getElem? (i := 40) rfl, rfl⟩
theorem kw_41 : Cond.initialized RX4 ∈ hm_ws := List.mem_filter.mpr ⟨List.mem_of_getElem? (i := 41) rfl, rfl⟩
theorem kw_42 : Cond.initialized "java/lang/Throwable" ∈ hm_ws := List.mem_filter.mpr ⟨List.mem_of_getElem? (i := 42) rfl, rfl⟩
theorem kw_43 : Cond.initialized "java/lang/Exception" ∈ hm_ws := List.mem_filter.mpr ⟨List.mem_of_getElem? (i := 43) rfl, rfl⟩
theorem kw_44 : Cond.initialized "java/lang/RuntimeException" ∈ hm_ws := List.mem_filter.mpr ⟨List.mem_of_getElem? (i := 44) rfl, rfl⟩
theorem kw_45 : Cond.initialized "java/lang/IndexOutOfBoundsException" ∈ hm_ws := List.mem_filter.mpr ⟨List.mem_of_getElem? (i := 45) rfl, rfl⟩
theorem kw_46 : Cond.initialized RJx00060 ∈ hm_ws := List.mem_filter.mpr ⟨List.mem_of_getElem? (i := 46) rfl, rfl⟩
theorem kw_47 : Cond.initialized RJ0 ∈ hm_ws := List.mem_filter.mpr ⟨List.mem_of_getElem? (i := 47) rfl, rfl⟩
theorem kw_48 : Cond.initialized "java/lang/ArithmeticException" ∈ hm_ws := List.mem_filter.mpr ⟨List.mem_of_getElem? (i := 48) rfl, rfl⟩
theorem kw_49 : Cond.initialized RJ6 ∈ hm_ws := List.mem_filter.mpr ⟨List.mem_of_getElem? (i := 49) rfl, rfl⟩
theorem kw_50 : Cond.initialized RX1 ∈ hm_ws := List.mem_filter.mpr ⟨List.mem_of_getElem? (i := 50) rfl, rfl⟩
theorem kw_51 : Cond.classLink RL 8 RX3 ∈ hm_ws := List.mem_filter.mpr ⟨List.mem_of_getElem? (i := 51) rfl, rfl⟩
theorem kw_52 : Cond.instantiable RX3 7 ∈ hm_ws := List.mem_filter.mpr ⟨List.mem_of_getElem? (i := 52) rfl, rfl⟩
theorem kw_53 : Cond.methodLink RL 36 yX3_init ∈ hm_ws := List.mem_filter.mpr ⟨List.mem_of_getElem? (i := 53) rfl, rfl⟩
theorem kw_54 : Cond.instanceMethod yX3_init ∈ hm_ws := List.mem_filter.mpr ⟨List.mem_of_getElem? (i := 54) rfl, rfl⟩
theorem kw_55 : Cond.code yX3_init cX3_init 1 none ∈ hm_ws := List.mem_filter.mpr ⟨List.mem_of_getElem? (i := 55) rfl, rfl⟩
theorem kw_56 : Cond.methodLink RX3 3 objectInit ∈ hm_ws := List.mem_filter.mpr ⟨List.mem_of_getElem? (i := 56) rfl, rfl⟩
theorem kw_57 : Cond.instanceMethod objectInit ∈ hm_ws := List.mem_filter.mpr ⟨List.mem_of_getElem? (i := 57) rfl, rfl⟩
theorem kw_58 : Cond.code objectInit ⟨#[0xb1]⟩ 1 none ∈ hm_ws := List.mem_filter.mpr ⟨List.mem_of_getElem? (i := 58) rfl, rfl⟩
theorem kw_59 : Cond.classLink RX3 9 RX2 ∈ hm_ws := List.mem_filter.mpr ⟨List.mem_of_getElem? (i := 59) rfl, rfl⟩
theorem kw_61 : Cond.classLink RX3 19 "[[J" ∈ hm_ws := List.mem_filter.mpr ⟨List.mem_of_getElem? (i := 61) rfl, rfl⟩
theorem kw_63 : Cond.instantiable RX2 3 ∈ hm_ws := List.mem_filter.mpr ⟨List.mem_of_getElem? (i := 63) rfl, rfl⟩
theorem kw_64 : Cond.methodLink RX3 24 yX2_init ∈ hm_ws := List.mem_filter.mpr ⟨List.mem_of_getElem? (i := 64) rfl, rfl⟩
theorem kw_65 : Cond.instanceMethod yX2_init ∈ hm_ws := List.mem_filter.mpr ⟨List.mem_of_getElem? (i := 65) rfl, rfl⟩
theorem kw_66 : Cond.code yX2_init cX2_init 2 none ∈ hm_ws := List.mem_filter.mpr ⟨List.mem_of_getElem? (i := 66) rfl, rfl⟩
theorem kw_67 : Cond.methodLink RX2 3 objectInit ∈ hm_ws := List.mem_filter.mpr ⟨List.mem_of_getElem? (i := 67) rfl, rfl⟩
theorem kw_68 : Cond.methodLink RX2 19 Lib.Math.max.name ∈ hm_ws := List.mem_filter.mpr ⟨List.mem_of_getElem? (i := 68) rfl, rfl⟩
theorem kw_69 : Cond.static Lib.Math.max.name ∈ hm_ws := List.mem_filter.mpr ⟨List.mem_of_getElem? (i := 69) rfl, rfl⟩
theorem kw_70 : Cond.code Lib.Math.max.name Lib.Math.max.code 2 (some .int) ∈ hm_ws := List.mem_filter.mpr ⟨List.mem_of_getElem? (i := 70) rfl, rfl⟩
theorem kw_71 : Cond.fieldLink RX2 25 "WideCounts$Whole" "limbs" "[I" ∈ hm_ws := List.mem_filter.mpr ⟨List.mem_of_getElem? (i := 71) rfl, rfl⟩
theorem kw_73 : Cond.fieldLink RX2 9 "WideCounts$Whole" "length" "I" ∈ hm_ws := List.mem_filter.mpr ⟨List.mem_of_getElem? (i := 73) rfl, rfl⟩
theorem kw_76 : Cond.fieldLink RX2 15 "WideCounts$Whole" "negative" "Z" ∈ hm_ws := List.mem_filter.mpr ⟨List.mem_of_getElem? (i := 76) rfl, rfl⟩
theorem kw_87 : Cond.arrayClass .long ∈ hm_ws := List.mem_filter.mpr ⟨List.mem_of_getElem? (i := 87) rfl, rfl⟩
theorem kw_88 : Cond.arrayClass .int ∈ hm_ws := List.mem_filter.mpr ⟨List.mem_of_getElem? (i := 88) rfl, rfl⟩
theorem kw_89 : Cond.classLink RX3 34 RX0 ∈ hm_ws := List.mem_filter.mpr ⟨List.mem_of_getElem? (i := 89) rfl, rfl⟩
theorem kw_90 : Cond.instantiable RX0 2 ∈ hm_ws := List.mem_filter.mpr ⟨List.mem_of_getElem? (i := 90) rfl, rfl⟩
theorem kw_92 : Cond.instanceMethod yX0_init ∈ hm_ws := List.mem_filter.mpr ⟨List.mem_of_getElem? (i := 92) rfl, rfl⟩
theorem kw_93 : Cond.code yX0_init cX0_init 1 none ∈ hm_ws := List.mem_filter.mpr ⟨List.mem_of_getElem? (i := 93) rfl, rfl⟩
theorem kw_94 : Cond.methodLink RX0 3 objectInit ∈ hm_ws := List.mem_filter.mpr ⟨List.mem_of_getElem? (i := 94) rfl, rfl⟩
theorem kw_95 : Cond.fieldLink RX0 9 "WideCounts$Divider" "rest" "[I" ∈ hm_ws := List.mem_filter.mpr ⟨List.mem_of_getElem? (i := 95) rfl, rfl⟩
theorem kw_96 : Cond.fieldLink RX0 15 "WideCounts$Divider" "divisor" "[I" ∈ hm_ws := List.mem_filter.mpr ⟨List.mem_of_getElem? (i := 96) rfl, rfl⟩
theorem kw_102 : Cond.fieldLink RX3 11 "WideCounts" "numbers" "[LWideCounts$Whole;" ∈ hm_ws := List.mem_filter.mpr ⟨List.mem_of_getElem? (i := 102) rfl, rfl⟩
theorem kw_103 : Cond.fieldLink RX3 15 "WideCounts" "count" "I" ∈ hm_ws := List.mem_filter.mpr ⟨List.mem_of_getElem? (i := 103) rfl, rfl⟩
theorem kw_104 : Cond.fieldLink RX3 21 "WideCounts" "table" "[[J" ∈ hm_ws := List.mem_filter.mpr ⟨List.mem_of_getElem? (i := 104) rfl, rfl⟩
theorem kw_105 : Cond.fieldLink RX3 27 "WideCounts" "result" "LWideCounts$Whole;" ∈ hm_ws := List.mem_filter.mpr ⟨List.mem_of_getElem? (i := 105) rfl, rfl⟩
theorem kw_106 : Cond.fieldLink RX3 31 "WideCounts" "spare" "LWideCounts$Whole;" ∈ hm_ws := List.mem_filter.mpr ⟨List.mem_of_getElem? (i := 106) rfl, rfl⟩
theorem kw_107 : Cond.fieldLink RX3 37 "WideCounts" "divider" "LWideCounts$Divider;" ∈ hm_ws := List.mem_filter.mpr ⟨List.mem_of_getElem? (i := 107) rfl, rfl⟩
theorem kw_108 : Cond.fieldLink RX3 41 "WideCounts" "elimination" "LWideCounts$Elimination;" ∈ hm_ws := List.mem_filter.mpr ⟨List.mem_of_getElem? (i := 108) rfl, rfl⟩
theorem kw_124 : Cond.methodLink RL 42 yX3_value ∈ hm_ws := List.mem_filter.mpr ⟨List.mem_of_getElem? (i := 124) rfl, rfl⟩
theorem kw_125 : Cond.instanceMethod yX3_value ∈ hm_ws := List.mem_filter.mpr ⟨List.mem_of_getElem? (i := 125) rfl, rfl⟩
theorem kw_126 : Cond.selects RX3 yX3_value yX3_value ∈ hm_ws := List.mem_filter.mpr ⟨List.mem_of_getElem? (i := 126) rfl, rfl⟩
theorem kw_127 : Cond.code yX3_value cX3_value 3 (some .int) ∈ hm_ws := List.mem_filter.mpr ⟨List.mem_of_getElem? (i := 127) rfl, rfl⟩
theorem kw_128 : Cond.methodLink RX3 45 yX3_isFull ∈ hm_ws := List.mem_filter.mpr ⟨List.mem_of_getElem? (i := 128) rfl, rfl⟩
theorem kw_130 : Cond.instanceMethod yX3_isFull ∈ hm_ws := List.mem_filter.mpr ⟨List.mem_of_getElem? (i := 130) rfl, rfl⟩
theorem kw_131 : Cond.code yX3_isFull cX3_isFull 1 (some .boolean) ∈ hm_ws := List.mem_filter.mpr ⟨List.mem_of_getElem? (i := 131) rfl, rfl⟩
theorem kw_132 : Cond.methodLink RX3 49 yX2_setLong ∈ hm_ws := List.mem_filter.mpr ⟨List.mem_of_getElem? (i := 132) rfl, rfl⟩
theorem kw_133 : Cond.instanceMethod yX2_setLong ∈ hm_ws := List.mem_filter.mpr ⟨List.mem_of_getElem? (i := 133) rfl, rfl⟩
theorem kw_134 : Cond.selects RX2 yX2_setLong yX2_setLong ∈ hm_ws := List.mem_filter.mpr ⟨List.mem_of_getElem? (i := 134) rfl, rfl⟩
theorem kw_135 : Cond.code yX2_setLong cX2_setLong 7 none ∈ hm_ws := List.mem_filter.mpr ⟨List.mem_of_getElem? (i := 135) rfl, rfl⟩
theorem kw_136 : Cond.methodLink RX2 29 Lib.Math.min.name ∈ hm_ws := List.mem_filter.mpr ⟨List.mem_of_getElem? (i := 136) rfl, rfl⟩
theorem kw_137 : Cond.static Lib.Math.min.name ∈ hm_ws := List.mem_filter.mpr ⟨List.mem_of_getElem? (i := 137) rfl, rfl⟩
theorem kw_138 : Cond.code Lib.Math.min.name Lib.Math.min.code 2 (some .int) ∈ hm_ws := List.mem_filter.mpr ⟨List.mem_of_getElem? (i := 138) rfl, rfl⟩
theorem kw_139 : Cond.constantLong RX2 32 33554431 ∈ hm_ws := List.mem_filter.mpr ⟨List.mem_of_getElem? (i := 139) rfl, rfl⟩
theorem kw_140 : Cond.methodLink RX2 34 yX2_finish ∈ hm_ws := List.mem_filter.mpr ⟨List.mem_of_getElem? (i := 140) rfl, rfl⟩
theorem kw_142 : Cond.instanceMethod yX2_finish ∈ hm_ws := List.mem_filter.mpr ⟨List.mem_of_getElem? (i := 142) rfl, rfl⟩
theorem kw_143 : Cond.code yX2_finish cX2_finish 3 none ∈ hm_ws := List.mem_filter.mpr ⟨List.mem_of_getElem? (i := 143) rfl, rfl⟩
theorem kw_144 : Cond.methodLink RX3 53 yX3_keep ∈ hm_ws := List.mem_filter.mpr ⟨List.mem_of_getElem? (i := 144) rfl, rfl⟩
theorem kw_146 : Cond.instanceMethod yX3_keep ∈ hm_ws := List.mem_filter.mpr ⟨List.mem_of_getElem? (i := 146) rfl, rfl⟩
theorem kw_147 : Cond.code yX3_keep cX3_keep 3 (some .int) ∈ hm_ws := List.mem_filter.mpr ⟨List.mem_of_getElem? (i := 147) rfl, rfl⟩
theorem kw_148 : Cond.methodLink RX3 102 yX2_fits ∈ hm_ws := List.mem_filter.mpr ⟨List.mem_of_getElem? (i := 148) rfl, rfl⟩
theorem kw_149 : Cond.instanceMethod yX2_fits ∈ hm_ws := List.mem_filter.mpr ⟨List.mem_of_getElem? (i := 149) rfl, rfl⟩
theorem kw_150 : Cond.selects RX2 yX2_fits yX2_fits ∈ hm_ws := List.mem_filter.mpr ⟨List.mem_of_getElem? (i := 150) rfl, rfl⟩
theorem kw_151 : Cond.code yX2_fits cX2_fits 1 (some .boolean) ∈ hm_ws := List.mem_filter.mpr ⟨List.mem_of_getElem? (i := 151) rfl, rfl⟩
theorem kw_152 : Cond.methodLink RX3 92 yX2_copyFrom ∈ hm_ws := List.mem_filter.mpr ⟨List.mem_of_getElem? (i := 152) rfl, rfl⟩
theorem kw_153 : Cond.instanceMethod yX2_copyFrom ∈ hm_ws := List.mem_filter.mpr ⟨List.mem_of_getElem? (i := 153) rfl, rfl⟩
theorem kw_154 : Cond.selects RX2 yX2_copyFrom yX2_copyFrom ∈ hm_ws := List.mem_filter.mpr ⟨List.mem_of_getElem? (i := 154) rfl, rfl⟩
theorem kw_155 : Cond.code yX2_copyFrom cX2_copyFrom 4 none ∈ hm_ws := List.mem_filter.mpr ⟨List.mem_of_getElem? (i := 155) rfl, rfl⟩
theorem kw_156 : Cond.methodLink RL 66 yX3_binomial ∈ hm_ws := List.mem_filter.mpr ⟨List.mem_of_getElem? (i := 156) rfl, rfl⟩
theorem kw_157 : Cond.instanceMethod yX3_binomial ∈ hm_ws := List.mem_filter.mpr ⟨List.mem_of_getElem? (i := 157) rfl, rfl⟩
theorem kw_158 : Cond.selects RX3 yX3_binomial yX3_binomial ∈ hm_ws := List.mem_filter.mpr ⟨List.mem_of_getElem? (i := 158) rfl, rfl⟩
theorem kw_159 : Cond.code yX3_binomial cX3_binomial 5 (some .int) ∈ hm_ws := List.mem_filter.mpr ⟨List.mem_of_getElem? (i := 159) rfl, rfl⟩
theorem kw_160 : Cond.methodLink RX3 96 Lib.Math.min.name ∈ hm_ws := List.mem_filter.mpr ⟨List.mem_of_getElem? (i := 160) rfl, rfl⟩
theorem kw_161 : Cond.methodLink RX3 105 yX2_multiplyBy ∈ hm_ws := List.mem_filter.mpr ⟨List.mem_of_getElem? (i := 161) rfl, rfl⟩
theorem kw_162 : Cond.instanceMethod yX2_multiplyBy ∈ hm_ws := List.mem_filter.mpr ⟨List.mem_of_getElem? (i := 162) rfl, rfl⟩
theorem kw_163 : Cond.selects RX2 yX2_multiplyBy yX2_multiplyBy ∈ hm_ws := List.mem_filter.mpr ⟨List.mem_of_getElem? (i := 163) rfl, rfl⟩
theorem kw_164 : Cond.code yX2_multiplyBy cX2_multiplyBy 6 none ∈ hm_ws := List.mem_filter.mpr ⟨List.mem_of_getElem? (i := 164) rfl, rfl⟩
theorem kw_165 : Cond.methodLink RX2 46 yX2_limbAt ∈ hm_ws := List.mem_filter.mpr ⟨List.mem_of_getElem? (i := 165) rfl, rfl⟩
theorem kw_167 : Cond.instanceMethod yX2_limbAt ∈ hm_ws := List.mem_filter.mpr ⟨List.mem_of_getElem? (i := 167) rfl, rfl⟩
theorem kw_168 : Cond.code yX2_limbAt cX2_limbAt 2 (some .int) ∈ hm_ws := List.mem_filter.mpr ⟨List.mem_of_getElem? (i := 168) rfl, rfl⟩
theorem kw_169 : Cond.methodLink RX3 108 yX2_divideBy ∈ hm_ws := List.mem_filter.mpr ⟨List.mem_of_getElem? (i := 169) rfl, rfl⟩
theorem kw_170 : Cond.instanceMethod yX2_divideBy ∈ hm_ws := List.mem_filter.mpr ⟨List.mem_of_getElem? (i := 170) rfl, rfl⟩
theorem kw_171 : Cond.selects RX2 yX2_divideBy yX2_divideBy ∈ hm_ws := List.mem_filter.mpr ⟨List.mem_of_getElem? (i := 171) rfl, rfl⟩
theorem kw_172 : Cond.code yX2_divideBy cX2_divideBy 7 (some .int) ∈ hm_ws := List.mem_filter.mpr ⟨List.mem_of_getElem? (i := 172) rfl, rfl⟩
theorem kw_173 : Cond.methodLink RL 70 yX3_factorial ∈ hm_ws := List.mem_filter.mpr ⟨List.mem_of_getElem? (i := 173) rfl, rfl⟩
theorem kw_174 : Cond.instanceMethod yX3_factorial ∈ hm_ws := List.mem_filter.mpr ⟨List.mem_of_getElem? (i := 174) rfl, rfl⟩
theorem kw_175 : Cond.selects RX3 yX3_factorial yX3_factorial ∈ hm_ws := List.mem_filter.mpr ⟨List.mem_of_getElem? (i := 175) rfl, rfl⟩
theorem kw_176 : Cond.code yX3_factorial cX3_factorial 3 (some .int) ∈ hm_ws := List.mem_filter.mpr ⟨List.mem_of_getElem? (i := 176) rfl, rfl⟩
theorem kw_177 : Cond.methodLink RL 81 yX3_entry ∈ hm_ws := List.mem_filter.mpr ⟨List.mem_of_getElem? (i := 177) rfl, rfl⟩
theorem kw_178 : Cond.instanceMethod yX3_entry ∈ hm_ws := List.mem_filter.mpr ⟨List.mem_of_getElem? (i := 178) rfl, rfl⟩
theorem kw_179 : Cond.selects RX3 yX3_entry yX3_entry ∈ hm_ws := List.mem_filter.mpr ⟨List.mem_of_getElem? (i := 179) rfl, rfl⟩
theorem kw_180 : Cond.code yX3_entry cX3_entry 5 (some .boolean) ∈ hm_ws := List.mem_filter.mpr ⟨List.mem_of_getElem? (i := 180) rfl, rfl⟩
theorem kw_181 : Cond.methodLink RL 86 yX3_determinant ∈ hm_ws := List.mem_filter.mpr ⟨List.mem_of_getElem? (i := 181) rfl, rfl⟩
theorem kw_182 : Cond.instanceMethod yX3_determinant ∈ hm_ws := List.mem_filter.mpr ⟨List.mem_of_getElem? (i := 182) rfl, rfl⟩
theorem kw_183 : Cond.selects RX3 yX3_determinant yX3_determinant ∈ hm_ws := List.mem_filter.mpr ⟨List.mem_of_getElem? (i := 183) rfl, rfl⟩
theorem kw_184 : Cond.code yX3_determinant cX3_determinant 2 (some .int) ∈ hm_ws := List.mem_filter.mpr ⟨List.mem_of_getElem? (i := 184) rfl, rfl⟩
theorem kw_185 : Cond.classLink RX3 122 RX1 ∈ hm_ws := List.mem_filter.mpr ⟨List.mem_of_getElem? (i := 185) rfl, rfl⟩
theorem kw_186 : Cond.instantiable RX1 4 ∈ hm_ws := List.mem_filter.mpr ⟨List.mem_of_getElem? (i := 186) rfl, rfl⟩
theorem kw_187 : Cond.methodLink RX3 124 yX1_init ∈ hm_ws := List.mem_filter.mpr ⟨List.mem_of_getElem? (i := 187) rfl, rfl⟩
theorem kw_188 : Cond.instanceMethod yX1_init ∈ hm_ws := List.mem_filter.mpr ⟨List.mem_of_getElem? (i := 188) rfl, rfl⟩
theorem kw_189 : Cond.code yX1_init cX1_init 3 none ∈ hm_ws := List.mem_filter.mpr ⟨List.mem_of_getElem? (i := 189) rfl, rfl⟩
theorem kw_190 : Cond.methodLink RX1 3 objectInit ∈ hm_ws := List.mem_filter.mpr ⟨List.mem_of_getElem? (i := 190) rfl, rfl⟩
theorem kw_191 : Cond.classLink RX1 9 RX2 ∈ hm_ws := List.mem_filter.mpr ⟨List.mem_of_getElem? (i := 191) rfl, rfl⟩
theorem kw_192 : Cond.methodLink RX1 17 yX2_init ∈ hm_ws := List.mem_filter.mpr ⟨List.mem_of_getElem? (i := 192) rfl, rfl⟩
theorem kw_193 : Cond.fieldLink RX1 11 "WideCounts$Elimination" "cells" "[LWideCounts$Whole;" ∈ hm_ws := List.mem_filter.mpr ⟨List.mem_of_getElem? (i := 193) rfl, rfl⟩
theorem kw_194 : Cond.fieldLink RX1 20 "WideCounts$Elimination" "first" "LWideCounts$Whole;" ∈ hm_ws := List.mem_filter.mpr ⟨List.mem_of_getElem? (i := 194) rfl, rfl⟩
theorem kw_195 : Cond.fieldLink RX1 24 "WideCounts$Elimination" "second" "LWideCounts$Whole;" ∈ hm_ws := List.mem_filter.mpr ⟨List.mem_of_getElem? (i := 195) rfl, rfl⟩
theorem kw_196 : Cond.fieldLink RX1 27 "WideCounts$Elimination" "divider" "LWideCounts$Divider;" ∈ hm_ws := List.mem_filter.mpr ⟨List.mem_of_getElem? (i := 196) rfl, rfl⟩
theorem kw_206 : Cond.methodLink RX3 127 yX1_solve ∈ hm_ws := List.mem_filter.mpr ⟨List.mem_of_getElem? (i := 206) rfl, rfl⟩
theorem kw_207 : Cond.instanceMethod yX1_solve ∈ hm_ws := List.mem_filter.mpr ⟨List.mem_of_getElem? (i := 207) rfl, rfl⟩
theorem kw_208 : Cond.selects RX1 yX1_solve yX1_solve ∈ hm_ws := List.mem_filter.mpr ⟨List.mem_of_getElem? (i := 208) rfl, rfl⟩
theorem kw_209 : Cond.code yX1_solve cX1_solve 7 none ∈ hm_ws := List.mem_filter.mpr ⟨List.mem_of_getElem? (i := 209) rfl, rfl⟩
theorem kw_210 : Cond.methodLink RX1 31 yX1_load ∈ hm_ws := List.mem_filter.mpr ⟨List.mem_of_getElem? (i := 210) rfl, rfl⟩
theorem kw_212 : Cond.instanceMethod yX1_load ∈ hm_ws := List.mem_filter.mpr ⟨List.mem_of_getElem? (i := 212) rfl, rfl⟩
theorem kw_213 : Cond.code yX1_load cX1_load 5 none ∈ hm_ws := List.mem_filter.mpr ⟨List.mem_of_getElem? (i := 213) rfl, rfl⟩
theorem kw_214 : Cond.methodLink RX1 51 yX1_cell ∈ hm_ws := List.mem_filter.mpr ⟨List.mem_of_getElem? (i := 214) rfl, rfl⟩
theorem kw_216 : Cond.instanceMethod yX1_cell ∈ hm_ws := List.mem_filter.mpr ⟨List.mem_of_getElem? (i := 216) rfl, rfl⟩
theorem kw_217 : Cond.code yX1_cell cX1_cell 3 (some (.object "WideCounts$Whole")) ∈ hm_ws := List.mem_filter.mpr ⟨List.mem_of_getElem? (i := 217) rfl, rfl⟩
theorem kw_218 : Cond.methodLink RX1 39 yX2_setLong ∈ hm_ws := List.mem_filter.mpr ⟨List.mem_of_getElem? (i := 218) rfl, rfl⟩
theorem kw_219 : Cond.methodLink RX1 35 yX1_pivotRow ∈ hm_ws := List.mem_filter.mpr ⟨List.mem_of_getElem? (i := 219) rfl, rfl⟩
theorem kw_221 : Cond.instanceMethod yX1_pivotRow ∈ hm_ws := List.mem_filter.mpr ⟨List.mem_of_getElem? (i := 221) rfl, rfl⟩
theorem kw_222 : Cond.code yX1_pivotRow cX1_pivotRow 4 (some .int) ∈ hm_ws := List.mem_filter.mpr ⟨List.mem_of_getElem? (i := 222) rfl, rfl⟩
theorem kw_223 : Cond.methodLink RX1 62 yX2_isZero ∈ hm_ws := List.mem_filter.mpr ⟨List.mem_of_getElem? (i := 223) rfl, rfl⟩
theorem kw_224 : Cond.instanceMethod yX2_isZero ∈ hm_ws := List.mem_filter.mpr ⟨List.mem_of_getElem? (i := 224) rfl, rfl⟩
theorem kw_225 : Cond.selects RX2 yX2_isZero yX2_isZero ∈ hm_ws := List.mem_filter.mpr ⟨List.mem_of_getElem? (i := 225) rfl, rfl⟩
theorem kw_226 : Cond.code yX2_isZero cX2_isZero 1 (some .boolean) ∈ hm_ws := List.mem_filter.mpr ⟨List.mem_of_getElem? (i := 226) rfl, rfl⟩
theorem kw_227 : Cond.methodLink RX1 43 yX1_swapRows ∈ hm_ws := List.mem_filter.mpr ⟨List.mem_of_getElem? (i := 227) rfl, rfl⟩
theorem kw_229 : Cond.instanceMethod yX1_swapRows ∈ hm_ws := List.mem_filter.mpr ⟨List.mem_of_getElem? (i := 229) rfl, rfl⟩
theorem kw_230 : Cond.code yX1_swapRows cX1_swapRows 6 none ∈ hm_ws := List.mem_filter.mpr ⟨List.mem_of_getElem? (i := 230) rfl, rfl⟩
theorem kw_231 : Cond.methodLink RX1 47 yX1_clearBelow ∈ hm_ws := List.mem_filter.mpr ⟨List.mem_of_getElem? (i := 231) rfl, rfl⟩
theorem kw_233 : Cond.instanceMethod yX1_clearBelow ∈ hm_ws := List.mem_filter.mpr ⟨List.mem_of_getElem? (i := 233) rfl, rfl⟩
theorem kw_234 : Cond.code yX1_clearBelow cX1_clearBelow 5 none ∈ hm_ws := List.mem_filter.mpr ⟨List.mem_of_getElem? (i := 234) rfl, rfl⟩
theorem kw_235 : Cond.methodLink RX1 66 yX1_reduce ∈ hm_ws := List.mem_filter.mpr ⟨List.mem_of_getElem? (i := 235) rfl, rfl⟩
theorem kw_237 : Cond.instanceMethod yX1_reduce ∈ hm_ws := List.mem_filter.mpr ⟨List.mem_of_getElem? (i := 237) rfl, rfl⟩
theorem kw_238 : Cond.code yX1_reduce cX1_reduce 5 none ∈ hm_ws := List.mem_filter.mpr ⟨List.mem_of_getElem? (i := 238) rfl, rfl⟩
theorem kw_239 : Cond.methodLink RX1 69 yX2_setProduct ∈ hm_ws := List.mem_filter.mpr ⟨List.mem_of_getElem? (i := 239) rfl, rfl⟩
theorem kw_240 : Cond.instanceMethod yX2_setProduct ∈ hm_ws := List.mem_filter.mpr ⟨List.mem_of_getElem? (i := 240) rfl, rfl⟩
theorem kw_241 : Cond.selects RX2 yX2_setProduct yX2_setProduct ∈ hm_ws := List.mem_filter.mpr ⟨List.mem_of_getElem? (i := 241) rfl, rfl⟩
theorem kw_242 : Cond.code yX2_setProduct cX2_setProduct 9 (some .boolean) ∈ hm_ws := List.mem_filter.mpr ⟨List.mem_of_getElem? (i := 242) rfl, rfl⟩
theorem kw_243 : Cond.methodLink RX2 51 yX2_fits ∈ hm_ws := List.mem_filter.mpr ⟨List.mem_of_getElem? (i := 243) rfl, rfl⟩
theorem kw_244 : Cond.methodLink RX1 77 yX2_setSum ∈ hm_ws := List.mem_filter.mpr ⟨List.mem_of_getElem? (i := 244) rfl, rfl⟩
theorem kw_245 : Cond.instanceMethod yX2_setSum ∈ hm_ws := List.mem_filter.mpr ⟨List.mem_of_getElem? (i := 245) rfl, rfl⟩
theorem kw_246 : Cond.selects RX2 yX2_setSum yX2_setSum ∈ hm_ws := List.mem_filter.mpr ⟨List.mem_of_getElem? (i := 246) rfl, rfl⟩
theorem kw_247 : Cond.code yX2_setSum cX2_setSum 4 none ∈ hm_ws := List.mem_filter.mpr ⟨List.mem_of_getElem? (i := 247) rfl, rfl⟩
theorem kw_248 : Cond.methodLink RX2 38 yX2_setAmounts ∈ hm_ws := List.mem_filter.mpr ⟨List.mem_of_getElem? (i := 248) rfl, rfl⟩
theorem kw_250 : Cond.instanceMethod yX2_setAmounts ∈ hm_ws := List.mem_filter.mpr ⟨List.mem_of_getElem? (i := 250) rfl, rfl⟩
theorem kw_251 : Cond.code yX2_setAmounts cX2_setAmounts 9 none ∈ hm_ws := List.mem_filter.mpr ⟨List.mem_of_getElem? (i := 251) rfl, rfl⟩
theorem kw_252 : Cond.constant RX2 50 33554431 ∈ hm_ws := List.mem_filter.mpr ⟨List.mem_of_getElem? (i := 252) rfl, rfl⟩
theorem kw_253 : Cond.methodLink RX2 42 yX2_compareAmount ∈ hm_ws := List.mem_filter.mpr ⟨List.mem_of_getElem? (i := 253) rfl, rfl⟩
theorem kw_254 : Cond.instanceMethod yX2_compareAmount ∈ hm_ws := List.mem_filter.mpr ⟨List.mem_of_getElem? (i := 254) rfl, rfl⟩
theorem kw_255 : Cond.selects RX2 yX2_compareAmount yX2_compareAmount ∈ hm_ws := List.mem_filter.mpr ⟨List.mem_of_getElem? (i := 255) rfl, rfl⟩
theorem kw_256 : Cond.code yX2_compareAmount cX2_compareAmount 3 (some .int) ∈ hm_ws := List.mem_filter.mpr ⟨List.mem_of_getElem? (i := 256) rfl, rfl⟩
theorem kw_257 : Cond.methodLink RX1 55 yX2_copyFrom ∈ hm_ws := List.mem_filter.mpr ⟨List.mem_of_getElem? (i := 257) rfl, rfl⟩
theorem kw_258 : Cond.methodLink RX1 81 yX0_divide ∈ hm_ws := List.mem_filter.mpr ⟨List.mem_of_getElem? (i := 258) rfl, rfl⟩
theorem kw_259 : Cond.instanceMethod yX0_divide ∈ hm_ws := List.mem_filter.mpr ⟨List.mem_of_getElem? (i := 259) rfl, rfl⟩
theorem kw_260 : Cond.selects RX0 yX0_divide yX0_divide ∈ hm_ws := List.mem_filter.mpr ⟨List.mem_of_getElem? (i := 260) rfl, rfl⟩
theorem kw_261 : Cond.code yX0_divide cX0_divide 8 none ∈ hm_ws := List.mem_filter.mpr ⟨List.mem_of_getElem? (i := 261) rfl, rfl⟩
theorem kw_262 : Cond.methodLink RX0 24 yX2_isZero ∈ hm_ws := List.mem_filter.mpr ⟨List.mem_of_getElem? (i := 262) rfl, rfl⟩
theorem kw_263 : Cond.methodLink RX0 31 yX2_setLong ∈ hm_ws := List.mem_filter.mpr ⟨List.mem_of_getElem? (i := 263) rfl, rfl⟩
theorem kw_264 : Cond.methodLink RX0 39 yX2_copyFrom ∈ hm_ws := List.mem_filter.mpr ⟨List.mem_of_getElem? (i := 264) rfl, rfl⟩
theorem kw_265 : Cond.methodLink RX0 43 yX2_divideBy ∈ hm_ws := List.mem_filter.mpr ⟨List.mem_of_getElem? (i := 265) rfl, rfl⟩
theorem kw_268 : Cond.static yX3_highestBit ∈ hm_ws := List.mem_filter.mpr ⟨List.mem_of_getElem? (i := 268) rfl, rfl⟩
theorem kw_269 : Cond.code yX3_highestBit cX3_highestBit 1 (some .int) ∈ hm_ws := List.mem_filter.mpr ⟨List.mem_of_getElem? (i := 269) rfl, rfl⟩
theorem kw_270 : Cond.methodLink RX3 142 yJ6_numberOfLeadingZeros_0f7a4 ∈ hm_ws := List.mem_filter.mpr ⟨List.mem_of_getElem? (i := 270) rfl, rfl⟩
theorem kw_271 : Cond.static yJ6_numberOfLeadingZeros_0f7a4 ∈ hm_ws := List.mem_filter.mpr ⟨List.mem_of_getElem? (i := 271) rfl, rfl⟩
theorem kw_272 : Cond.code yJ6_numberOfLeadingZeros_0f7a4 cJ6_numberOfLeadingZeros_0f7a4 2 (some .int) ∈ hm_ws := List.mem_filter.mpr ⟨List.mem_of_getElem? (i := 272) rfl, rfl⟩
theorem kw_273 : Cond.constant RJ6 264 65536 ∈ hm_ws := List.mem_filter.mpr ⟨List.mem_of_getElem? (i := 273) rfl, rfl⟩
theorem kw_274 : Cond.methodLink RX0 54 yX0_shiftInto ∈ hm_ws := List.mem_filter.mpr ⟨List.mem_of_getElem? (i := 274) rfl, rfl⟩
theorem kw_275 : Cond.static yX0_shiftInto ∈ hm_ws := List.mem_filter.mpr ⟨List.mem_of_getElem? (i := 275) rfl, rfl⟩
theorem kw_276 : Cond.code yX0_shiftInto cX0_shiftInto 6 none ∈ hm_ws := List.mem_filter.mpr ⟨List.mem_of_getElem? (i := 276) rfl, rfl⟩
theorem kw_278 : Cond.constantLong RX0 65 33554431 ∈ hm_ws := List.mem_filter.mpr ⟨List.mem_of_getElem? (i := 278) rfl, rfl⟩
theorem kw_279 : Cond.methodLink RX0 58 yX0_nextLimb ∈ hm_ws := List.mem_filter.mpr ⟨List.mem_of_getElem? (i := 279) rfl, rfl⟩
theorem kw_281 : Cond.instanceMethod yX0_nextLimb ∈ hm_ws := List.mem_filter.mpr ⟨List.mem_of_getElem? (i := 281) rfl, rfl⟩
theorem kw_282 : Cond.code yX0_nextLimb cX0_nextLimb 5 (some .int) ∈ hm_ws := List.mem_filter.mpr ⟨List.mem_of_getElem? (i := 282) rfl, rfl⟩
theorem kw_283 : Cond.methodLink RX0 67 yX0_guessLimb ∈ hm_ws := List.mem_filter.mpr ⟨List.mem_of_getElem? (i := 283) rfl, rfl⟩
theorem kw_285 : Cond.instanceMethod yX0_guessLimb ∈ hm_ws := List.mem_filter.mpr ⟨List.mem_of_getElem? (i := 285) rfl, rfl⟩
theorem kw_286 : Cond.code yX0_guessLimb cX0_guessLimb 14 (some .long) ∈ hm_ws := List.mem_filter.mpr ⟨List.mem_of_getElem? (i := 286) rfl, rfl⟩
theorem kw_287 : Cond.constantLong RX0 79 33554432 ∈ hm_ws := List.mem_filter.mpr ⟨List.mem_of_getElem? (i := 287) rfl, rfl⟩
theorem kw_288 : Cond.methodLink RX0 71 yX0_takeAway ∈ hm_ws := List.mem_filter.mpr ⟨List.mem_of_getElem? (i := 288) rfl, rfl⟩
theorem kw_290 : Cond.instanceMethod yX0_takeAway ∈ hm_ws := List.mem_filter.mpr ⟨List.mem_of_getElem? (i := 290) rfl, rfl⟩
theorem kw_291 : Cond.code yX0_takeAway cX0_takeAway 8 (some .boolean) ∈ hm_ws := List.mem_filter.mpr ⟨List.mem_of_getElem? (i := 291) rfl, rfl⟩
theorem kw_292 : Cond.methodLink RX0 75 yX0_giveBack ∈ hm_ws := List.mem_filter.mpr ⟨List.mem_of_getElem? (i := 292) rfl, rfl⟩
theorem kw_294 : Cond.instanceMethod yX0_giveBack ∈ hm_ws := List.mem_filter.mpr ⟨List.mem_of_getElem? (i := 294) rfl, rfl⟩
theorem kw_295 : Cond.code yX0_giveBack cX0_giveBack 5 none ∈ hm_ws := List.mem_filter.mpr ⟨List.mem_of_getElem? (i := 295) rfl, rfl⟩
theorem kw_296 : Cond.constant RX0 81 33554431 ∈ hm_ws := List.mem_filter.mpr ⟨List.mem_of_getElem? (i := 296) rfl, rfl⟩
theorem kw_297 : Cond.methodLink RX1 59 yX2_negate ∈ hm_ws := List.mem_filter.mpr ⟨List.mem_of_getElem? (i := 297) rfl, rfl⟩
theorem kw_298 : Cond.instanceMethod yX2_negate ∈ hm_ws := List.mem_filter.mpr ⟨List.mem_of_getElem? (i := 298) rfl, rfl⟩
theorem kw_299 : Cond.selects RX2 yX2_negate yX2_negate ∈ hm_ws := List.mem_filter.mpr ⟨List.mem_of_getElem? (i := 299) rfl, rfl⟩
theorem kw_300 : Cond.code yX2_negate cX2_negate 1 none ∈ hm_ws := List.mem_filter.mpr ⟨List.mem_of_getElem? (i := 300) rfl, rfl⟩
theorem kw_301 : Cond.methodLink RL 94 yX3_kept ∈ hm_ws := List.mem_filter.mpr ⟨List.mem_of_getElem? (i := 301) rfl, rfl⟩
theorem kw_302 : Cond.instanceMethod yX3_kept ∈ hm_ws := List.mem_filter.mpr ⟨List.mem_of_getElem? (i := 302) rfl, rfl⟩
theorem kw_303 : Cond.selects RX3 yX3_kept yX3_kept ∈ hm_ws := List.mem_filter.mpr ⟨List.mem_of_getElem? (i := 303) rfl, rfl⟩
theorem kw_304 : Cond.code yX3_kept cX3_kept 1 (some .int) ∈ hm_ws := List.mem_filter.mpr ⟨List.mem_of_getElem? (i := 304) rfl, rfl⟩
theorem kw_305 : Cond.methodLink RL 47 yL_add ∈ hm_ws := List.mem_filter.mpr ⟨List.mem_of_getElem? (i := 305) rfl, rfl⟩
theorem kw_306 : Cond.static yL_add ∈ hm_ws := List.mem_filter.mpr ⟨List.mem_of_getElem? (i := 306) rfl, rfl⟩
theorem kw_308 : Cond.classLink RL 13 RJx00060 ∈ hm_ws := List.mem_filter.mpr ⟨List.mem_of_getElem? (i := 308) rfl, rfl⟩
theorem kw_309 : Cond.instantiable RJx00060 6 ∈ hm_ws := List.mem_filter.mpr ⟨List.mem_of_getElem? (i := 309) rfl, rfl⟩
theorem kw_310 : Cond.instanceMethod yJx00060_init_a7421 ∈ hm_ws := List.mem_filter.mpr ⟨List.mem_of_getElem? (i := 310) rfl, rfl⟩
theorem kw_311 : Cond.code yJx00060_init_a7421 cJx00060_init_a7421 2 none ∈ hm_ws := List.mem_filter.mpr ⟨List.mem_of_getElem? (i := 311) rfl, rfl⟩
theorem kw_324 : Cond.methodLink "java/lang/Throwable" 1 objectInit ∈ hm_ws := List.mem_filter.mpr ⟨List.mem_of_getElem? (i := 324) rfl, rfl⟩
theorem kw_325 : Cond.fieldLink "java/lang/Throwable" 13 "java/lang/Throwable" "UNASSIGNED_STACK" "[Ljava/lang/StackTraceElement;" ∈ hm_ws := List.mem_filter.mpr ⟨List.mem_of_getElem? (i := 325) rfl, rfl⟩
theorem kw_327 : Cond.fieldLink "java/lang/Throwable" 20 "java/lang/Throwable" "SUPPRESSED_SENTINEL" "Ljava/util/List;" ∈ hm_ws := List.mem_filter.mpr ⟨List.mem_of_getElem? (i := 327) rfl, rfl⟩
theorem kw_338 : Cond.instantiable "java/lang/Throwable" 6 ∈ hm_ws := List.mem_filter.mpr ⟨List.mem_of_getElem? (i := 338) rfl, rfl⟩
theorem kw_340 : Cond.fieldLink "java/lang/Throwable" 198 "java/lang/Throwable" "backtrace" "Ljava/lang/Object;" ∈ hm_ws := List.mem_filter.mpr ⟨List.mem_of_getElem? (i := 340) rfl, rfl⟩
theorem kw_341 : Cond.fieldLink "java/lang/Throwable" 31 "java/lang/Throwable" "detailMessage" "Ljava/lang/String;" ∈ hm_ws := List.mem_filter.mpr ⟨List.mem_of_getElem? (i := 341) rfl, rfl⟩
theorem kw_342 : Cond.fieldLink "java/lang/Throwable" 7 "java/lang/Throwable" "cause" "Ljava/lang/Throwable;" ∈ hm_ws := List.mem_filter.mpr ⟨List.mem_of_getElem? (i := 342) rfl, rfl⟩
theorem kw_343 : Cond.fieldLink "java/lang/Throwable" 17 "java/lang/Throwable" "stackTrace" "[Ljava/lang/StackTraceElement;" ∈ hm_ws := List.mem_filter.mpr ⟨List.mem_of_getElem? (i := 343) rfl, rfl⟩
theorem kw_344 : Cond.fieldLink "java/lang/Throwable" 24 "java/lang/Throwable" "suppressedExceptions" "Ljava/util/List;" ∈ hm_ws := List.mem_filter.mpr ⟨List.mem_of_getElem? (i := 344) rfl, rfl⟩
theorem kw_377 : Cond.instantiable RJ0 4 ∈ hm_ws := List.mem_filter.mpr ⟨List.mem_of_getElem? (i := 377) rfl, rfl⟩
theorem kw_378 : Cond.arrayClass .byte ∈ hm_ws := List.mem_filter.mpr ⟨List.mem_of_getElem? (i := 378) rfl, rfl⟩
set_option maxRecDepth 100000 in
theorem kw_383 : Cond.methodLink RL 7 yX3_add ∈ hm_ws := List.mem_filter.mpr ⟨List.mem_of_getElem? (i := 383) rfl, rfl⟩
set_option maxRecDepth 100000 in
theorem kw_384 : Cond.instanceMethod yX3_add ∈ hm_ws := List.mem_filter.mpr ⟨List.mem_of_getElem? (i := 384) rfl, rfl⟩
set_option maxRecDepth 100000 in
theorem kw_385 : Cond.selects RX3 yX3_add yX3_add ∈ hm_ws := List.mem_filter.mpr ⟨List.mem_of_getElem? (i := 385) rfl, rfl⟩
set_option maxRecDepth 100000 in
theorem kw_386 : Cond.code yX3_add cX3_add 5 (some .int) ∈ hm_ws := List.mem_filter.mpr ⟨List.mem_of_getElem? (i := 386) rfl, rfl⟩
set_option maxRecDepth 100000 in
theorem kw_387 : Cond.methodLink RX3 57 yX3_known ∈ hm_ws := List.mem_filter.mpr ⟨List.mem_of_getElem? (i := 387) rfl, rfl⟩
set_option maxRecDepth 100000 in
theorem kw_389 : Cond.instanceMethod yX3_known ∈ hm_ws := List.mem_filter.mpr ⟨List.mem_of_getElem? (i := 389) rfl, rfl⟩
set_option maxRecDepth 100000 in
theorem kw_390 : Cond.code yX3_known cX3_known 2 (some (.object "WideCounts$Whole")) ∈ hm_ws := List.mem_filter.mpr ⟨List.mem_of_getElem? (i := 390) rfl, rfl⟩
set_option maxRecDepth 100000 in
theorem kw_391 : Cond.classLink RX3 114 RJx00060 ∈ hm_ws := List.mem_filter.mpr ⟨List.mem_of_getElem? (i := 391) rfl, rfl⟩
set_option maxRecDepth 100000 in
theorem kw_393 : Cond.methodLink RX3 118 yJx00060_init_a7421 ∈ hm_ws := List.mem_filter.mpr ⟨List.mem_of_getElem? (i := 393) rfl, rfl⟩
set_option maxRecDepth 100000 in
theorem kw_394 : Cond.methodLink RX3 65 yX2_setSum ∈ hm_ws := List.mem_filter.mpr ⟨List.mem_of_getElem? (i := 394) rfl, rfl⟩
set_option maxRecDepth 100000 in
theorem kw_395 : Cond.methodLink RL 57 yL_times ∈ hm_ws := List.mem_filter.mpr ⟨List.mem_of_getElem? (i := 395) rfl, rfl⟩
set_option maxRecDepth 100000 in
theorem kw_396 : Cond.static yL_times ∈ hm_ws := List.mem_filter.mpr ⟨List.mem_of_getElem? (i := 396) rfl, rfl⟩
set_option maxRecDepth 100000 in
theorem kw_398 : Cond.methodLink RL 15 yX3_times ∈ hm_ws := List.mem_filter.mpr ⟨List.mem_of_getElem? (i := 398) rfl, rfl⟩
set_option maxRecDepth 100000 in
theorem kw_399 : Cond.instanceMethod yX3_times ∈ hm_ws := List.mem_filter.mpr ⟨List.mem_of_getElem? (i := 399) rfl, rfl⟩
set_option maxRecDepth 100000 in
theorem kw_400 : Cond.selects RX3 yX3_times yX3_times ∈ hm_ws := List.mem_filter.mpr ⟨List.mem_of_getElem? (i := 400) rfl, rfl⟩
set_option maxRecDepth 100000 in
theorem kw_401 : Cond.code yX3_times cX3_times 5 (some .int) ∈ hm_ws := List.mem_filter.mpr ⟨List.mem_of_getElem? (i := 401) rfl, rfl⟩
set_option maxRecDepth 100000 in
theorem kw_402 : Cond.methodLink RX3 69 yX2_setProduct ∈ hm_ws := List.mem_filter.mpr ⟨List.mem_of_getElem? (i := 402) rfl, rfl⟩
set_option maxRecDepth 100000 in
theorem kw_403 : Cond.methodLink RL 60 yL_over ∈ hm_ws := List.mem_filter.mpr ⟨List.mem_of_getElem? (i := 403) rfl, rfl⟩
set_option maxRecDepth 100000 in
theorem kw_404 : Cond.static yL_over ∈ hm_ws := List.mem_filter.mpr ⟨List.mem_of_getElem? (i := 404) rfl, rfl⟩
set_option maxRecDepth 100000 in
theorem kw_406 : Cond.classLink RL 21 "java/lang/ArithmeticException" ∈ hm_ws := List.mem_filter.mpr ⟨List.mem_of_getElem? (i := 406) rfl, rfl⟩
set_option maxRecDepth 100000 in
theorem kw_407 : Cond.instantiable "java/lang/ArithmeticException" 6 ∈ hm_ws := List.mem_filter.mpr ⟨List.mem_of_getElem? (i := 407) rfl, rfl⟩
set_option maxRecDepth 100000 in
theorem kw_420 : Cond.methodLink RL 18 yX3_over ∈ hm_ws := List.mem_filter.mpr ⟨List.mem_of_getElem? (i := 420) rfl, rfl⟩
set_option maxRecDepth 100000 in
theorem kw_421 : Cond.instanceMethod yX3_over ∈ hm_ws := List.mem_filter.mpr ⟨List.mem_of_getElem? (i := 421) rfl, rfl⟩
set_option maxRecDepth 100000 in
theorem kw_422 : Cond.selects RX3 yX3_over yX3_over ∈ hm_ws := List.mem_filter.mpr ⟨List.mem_of_getElem? (i := 422) rfl, rfl⟩
set_option maxRecDepth 100000 in
theorem kw_423 : Cond.code yX3_over cX3_over 5 (some .int) ∈ hm_ws := List.mem_filter.mpr ⟨List.mem_of_getElem? (i := 423) rfl, rfl⟩
set_option maxRecDepth 100000 in
theorem kw_424 : Cond.methodLink RX3 73 yX2_isZero ∈ hm_ws := List.mem_filter.mpr ⟨List.mem_of_getElem? (i := 424) rfl, rfl⟩
set_option maxRecDepth 100000 in
theorem kw_425 : Cond.classLink RX3 76 "java/lang/ArithmeticException" ∈ hm_ws := List.mem_filter.mpr ⟨List.mem_of_getElem? (i := 425) rfl, rfl⟩
set_option maxRecDepth 100000 in
theorem kw_428 : Cond.methodLink RX3 83 yX0_divide ∈ hm_ws := List.mem_filter.mpr ⟨List.mem_of_getElem? (i := 428) rfl, rfl⟩
set_option maxRecDepth 100000 in
theorem kw_429 : Cond.methodLink RL 63 yL_power ∈ hm_ws := List.mem_filter.mpr ⟨List.mem_of_getElem? (i := 429) rfl, rfl⟩
set_option maxRecDepth 100000 in
theorem kw_430 : Cond.static yL_power ∈ hm_ws := List.mem_filter.mpr ⟨List.mem_of_getElem? (i := 430) rfl, rfl⟩
set_option maxRecDepth 100000 in
theorem kw_432 : Cond.methodLink RL 23 yX3_power ∈ hm_ws := List.mem_filter.mpr ⟨List.mem_of_getElem? (i := 432) rfl, rfl⟩
set_option maxRecDepth 100000 in
theorem kw_433 : Cond.instanceMethod yX3_power ∈ hm_ws := List.mem_filter.mpr ⟨List.mem_of_getElem? (i := 433) rfl, rfl⟩
set_option maxRecDepth 100000 in
theorem kw_434 : Cond.selects RX3 yX3_power yX3_power ∈ hm_ws := List.mem_filter.mpr ⟨List.mem_of_getElem? (i := 434) rfl, rfl⟩
set_option maxRecDepth 100000 in
theorem kw_435 : Cond.code yX3_power cX3_power 5 (some .int) ∈ hm_ws := List.mem_filter.mpr ⟨List.mem_of_getElem? (i := 435) rfl, rfl⟩
set_option maxRecDepth 100000 in
theorem kw_436 : Cond.constant RX3 87 1000000 ∈ hm_ws := List.mem_filter.mpr ⟨List.mem_of_getElem? (i := 436) rfl, rfl⟩
set_option maxRecDepth 100000 in
theorem kw_437 : Cond.methodLink RX3 88 yX3_highestBit ∈ hm_ws := List.mem_filter.mpr ⟨List.mem_of_getElem? (i := 437) rfl, rfl⟩
set_option maxRecDepth 100000 in
theorem kw_438 : Cond.methodLink RL 75 yL_order ∈ hm_ws := List.mem_filter.mpr ⟨List.mem_of_getElem? (i := 438) rfl, rfl⟩
set_option maxRecDepth 100000 in
theorem kw_439 : Cond.static yL_order ∈ hm_ws := List.mem_filter.mpr ⟨List.mem_of_getElem? (i := 439) rfl, rfl⟩
set_option maxRecDepth 100000 in
theorem kw_441 : Cond.methodLink RL 26 yX3_order ∈ hm_ws := List.mem_filter.mpr ⟨List.mem_of_getElem? (i := 441) rfl, rfl⟩
set_option maxRecDepth 100000 in
theorem kw_442 : Cond.instanceMethod yX3_order ∈ hm_ws := List.mem_filter.mpr ⟨List.mem_of_getElem? (i := 442) rfl, rfl⟩
set_option maxRecDepth 100000 in
theorem kw_443 : Cond.selects RX3 yX3_order yX3_order ∈ hm_ws := List.mem_filter.mpr ⟨List.mem_of_getElem? (i := 443) rfl, rfl⟩
set_option maxRecDepth 100000 in
theorem kw_444 : Cond.code yX3_order cX3_order 6 (some .int) ∈ hm_ws := List.mem_filter.mpr ⟨List.mem_of_getElem? (i := 444) rfl, rfl⟩
set_option maxRecDepth 100000 in
theorem kw_445 : Cond.methodLink RX3 111 yX2_compareAmount ∈ hm_ws := List.mem_filter.mpr ⟨List.mem_of_getElem? (i := 445) rfl, rfl⟩
set_option maxRecDepth 100000 in
theorem kw_446 : Cond.methodLink RL 78 yL_digit ∈ hm_ws := List.mem_filter.mpr ⟨List.mem_of_getElem? (i := 446) rfl, rfl⟩
set_option maxRecDepth 100000 in
theorem kw_447 : Cond.static yL_digit ∈ hm_ws := List.mem_filter.mpr ⟨List.mem_of_getElem? (i := 447) rfl, rfl⟩
set_option maxRecDepth 100000 in
theorem kw_449 : Cond.methodLink RL 29 yX3_digit ∈ hm_ws := List.mem_filter.mpr ⟨List.mem_of_getElem? (i := 449) rfl, rfl⟩
set_option maxRecDepth 100000 in
theorem kw_450 : Cond.instanceMethod yX3_digit ∈ hm_ws := List.mem_filter.mpr ⟨List.mem_of_getElem? (i := 450) rfl, rfl⟩
set_option maxRecDepth 100000 in
theorem kw_451 : Cond.selects RX3 yX3_digit yX3_digit ∈ hm_ws := List.mem_filter.mpr ⟨List.mem_of_getElem? (i := 451) rfl, rfl⟩
set_option maxRecDepth 100000 in
theorem kw_452 : Cond.code yX3_digit cX3_digit 4 (some .int) ∈ hm_ws := List.mem_filter.mpr ⟨List.mem_of_getElem? (i := 452) rfl, rfl⟩
set_option maxRecDepth 100000 in
theorem kw_454 : Cond.methodLink RX3 119 yX2_dropDigits ∈ hm_ws := List.mem_filter.mpr ⟨List.mem_of_getElem? (i := 454) rfl, rfl⟩
set_option maxRecDepth 100000 in
theorem kw_455 : Cond.instanceMethod yX2_dropDigits ∈ hm_ws := List.mem_filter.mpr ⟨List.mem_of_getElem? (i := 455) rfl, rfl⟩
set_option maxRecDepth 100000 in
theorem kw_456 : Cond.selects RX2 yX2_dropDigits yX2_dropDigits ∈ hm_ws := List.mem_filter.mpr ⟨List.mem_of_getElem? (i := 456) rfl, rfl⟩
set_option maxRecDepth 100000 in
theorem kw_457 : Cond.code yX2_dropDigits cX2_dropDigits 3 none ∈ hm_ws := List.mem_filter.mpr ⟨List.mem_of_getElem? (i := 457) rfl, rfl⟩
set_option maxRecDepth 100000 in
theorem kw_458 : Cond.constant RX2 55 1000000000 ∈ hm_ws := List.mem_filter.mpr ⟨List.mem_of_getElem? (i := 458) rfl, rfl⟩
set_option maxRecDepth 100000 in
theorem kw_459 : Cond.methodLink RX2 56 yX2_divideBy ∈ hm_ws := List.mem_filter.mpr ⟨List.mem_of_getElem? (i := 459) rfl, rfl⟩
set_option maxRecDepth 100000 in
theorem kw_460 : Cond.methodLink RL 90 yL_residue ∈ hm_ws := List.mem_filter.mpr ⟨List.mem_of_getElem? (i := 460) rfl, rfl⟩
set_option maxRecDepth 100000 in
theorem kw_461 : Cond.static yL_residue ∈ hm_ws := List.mem_filter.mpr ⟨List.mem_of_getElem? (i := 461) rfl, rfl⟩
set_option maxRecDepth 100000 in
theorem kw_463 : Cond.methodLink RL 32 yX3_residue ∈ hm_ws := List.mem_filter.mpr ⟨List.mem_of_getElem? (i := 463) rfl, rfl⟩
set_option maxRecDepth 100000 in
theorem kw_464 : Cond.instanceMethod yX3_residue ∈ hm_ws := List.mem_filter.mpr ⟨List.mem_of_getElem? (i := 464) rfl, rfl⟩
set_option maxRecDepth 100000 in
theorem kw_465 : Cond.selects RX3 yX3_residue yX3_residue ∈ hm_ws := List.mem_filter.mpr ⟨List.mem_of_getElem? (i := 465) rfl, rfl⟩
set_option maxRecDepth 100000 in
theorem kw_466 : Cond.code yX3_residue cX3_residue 9 (some .long) ∈ hm_ws := List.mem_filter.mpr ⟨List.mem_of_getElem? (i := 466) rfl, rfl⟩
set_option maxRecDepth 100000 in
theorem kw_468 : Cond.methodLink RX3 133 yX2_restBelowZero ∈ hm_ws := List.mem_filter.mpr ⟨List.mem_of_getElem? (i := 468) rfl, rfl⟩
set_option maxRecDepth 100000 in
theorem kw_469 : Cond.instanceMethod yX2_restBelowZero ∈ hm_ws := List.mem_filter.mpr ⟨List.mem_of_getElem? (i := 469) rfl, rfl⟩
set_option maxRecDepth 100000 in
theorem kw_470 : Cond.selects RX2 yX2_restBelowZero yX2_restBelowZero ∈ hm_ws := List.mem_filter.mpr ⟨List.mem_of_getElem? (i := 470) rfl, rfl⟩
set_option maxRecDepth 100000 in
theorem kw_471 : Cond.code yX2_restBelowZero cX2_restBelowZero 9 (some .long) ∈ hm_ws := List.mem_filter.mpr ⟨List.mem_of_getElem? (i := 471) rfl, rfl⟩
set_option maxRecDepth 100000 in
theorem kw_472 : Cond.classLink RL 37 RX4 ∈ hm_ws := List.mem_filter.mpr ⟨List.mem_of_getElem? (i := 472) rfl, rfl⟩
set_option maxRecDepth 100000 in
theorem kw_473 : Cond.instantiable RX4 16 ∈ hm_ws := List.mem_filter.mpr ⟨List.mem_of_getElem? (i := 473) rfl, rfl⟩
set_option maxRecDepth 100000 in
theorem kw_474 : Cond.methodLink RL 39 yX4_init ∈ hm_ws := List.mem_filter.mpr ⟨List.mem_of_getElem? (i := 474) rfl, rfl⟩
set_option maxRecDepth 100000 in
theorem kw_475 : Cond.instanceMethod yX4_init ∈ hm_ws := List.mem_filter.mpr ⟨List.mem_of_getElem? (i := 475) rfl, rfl⟩
set_option maxRecDepth 100000 in
theorem kw_476 : Cond.code yX4_init cX4_init 1 none ∈ hm_ws := List.mem_filter.mpr ⟨List.mem_of_getElem? (i := 476) rfl, rfl⟩
set_option maxRecDepth 100000 in
theorem kw_477 : Cond.methodLink RX4 1 objectInit ∈ hm_ws := List.mem_filter.mpr ⟨List.mem_of_getElem? (i := 477) rfl, rfl⟩
set_option maxRecDepth 100000 in
theorem kw_478 : Cond.constant RX4 33 212992 ∈ hm_ws := List.mem_filter.mpr ⟨List.mem_of_getElem? (i := 478) rfl, rfl⟩
set_option maxRecDepth 100000 in
theorem kw_479 : Cond.fieldLink RX4 49 "WideCountsModel" "thrown" "I" ∈ hm_ws := List.mem_filter.mpr ⟨List.mem_of_getElem? (i := 479) rfl, rfl⟩
set_option maxRecDepth 100000 in
theorem kw_480 : Cond.fieldLink RX4 53 "WideCountsModel" "kept" "I" ∈ hm_ws := List.mem_filter.mpr ⟨List.mem_of_getElem? (i := 480) rfl, rfl⟩
set_option maxRecDepth 100000 in
theorem kw_481 : Cond.fieldLink RX4 7 "WideCountsModel" "limbs" "[I" ∈ hm_ws := List.mem_filter.mpr ⟨List.mem_of_getElem? (i := 481) rfl, rfl⟩
set_option maxRecDepth 100000 in
theorem kw_482 : Cond.fieldLink RX4 13 "WideCountsModel" "sizes" "[I" ∈ hm_ws := List.mem_filter.mpr ⟨List.mem_of_getElem? (i := 482) rfl, rfl⟩
set_option maxRecDepth 100000 in
theorem kw_483 : Cond.fieldLink RX4 16 "WideCountsModel" "below" "[Z" ∈ hm_ws := List.mem_filter.mpr ⟨List.mem_of_getElem? (i := 483) rfl, rfl⟩
set_option maxRecDepth 100000 in
theorem kw_484 : Cond.fieldLink RX4 20 "WideCountsModel" "table" "[J" ∈ hm_ws := List.mem_filter.mpr ⟨List.mem_of_getElem? (i := 484) rfl, rfl⟩
set_option maxRecDepth 100000 in
theorem kw_485 : Cond.fieldLink RX4 24 "WideCountsModel" "work" "[I" ∈ hm_ws := List.mem_filter.mpr ⟨List.mem_of_getElem? (i := 485) rfl, rfl⟩
set_option maxRecDepth 100000 in
theorem kw_486 : Cond.fieldLink RX4 64 "WideCountsModel" "workSize" "I" ∈ hm_ws := List.mem_filter.mpr ⟨List.mem_of_getElem? (i := 486) rfl, rfl⟩
set_option maxRecDepth 100000 in
theorem kw_487 : Cond.fieldLink RX4 27 "WideCountsModel" "other" "[I" ∈ hm_ws := List.mem_filter.mpr ⟨List.mem_of_getElem? (i := 487) rfl, rfl⟩
set_option maxRecDepth 100000 in
theorem kw_488 : Cond.fieldLink RX4 67 "WideCountsModel" "otherSize" "I" ∈ hm_ws := List.mem_filter.mpr ⟨List.mem_of_getElem? (i := 488) rfl, rfl⟩
set_option maxRecDepth 100000 in
theorem kw_489 : Cond.fieldLink RX4 30 "WideCountsModel" "rest" "[I" ∈ hm_ws := List.mem_filter.mpr ⟨List.mem_of_getElem? (i := 489) rfl, rfl⟩
set_option maxRecDepth 100000 in
theorem kw_490 : Cond.fieldLink RX4 34 "WideCountsModel" "minors" "[I" ∈ hm_ws := List.mem_filter.mpr ⟨List.mem_of_getElem? (i := 490) rfl, rfl⟩
set_option maxRecDepth 100000 in
theorem kw_491 : Cond.fieldLink RX4 37 "WideCountsModel" "minorBelow" "[Z" ∈ hm_ws := List.mem_filter.mpr ⟨List.mem_of_getElem? (i := 491) rfl, rfl⟩
set_option maxRecDepth 100000 in
theorem kw_492 : Cond.fieldLink RX4 40 "WideCountsModel" "up" "[I" ∈ hm_ws := List.mem_filter.mpr ⟨List.mem_of_getElem? (i := 492) rfl, rfl⟩
set_option maxRecDepth 100000 in
theorem kw_493 : Cond.fieldLink RX4 43 "WideCountsModel" "plus" "[I" ∈ hm_ws := List.mem_filter.mpr ⟨List.mem_of_getElem? (i := 493) rfl, rfl⟩
set_option maxRecDepth 100000 in
theorem kw_494 : Cond.fieldLink RX4 46 "WideCountsModel" "minus" "[I" ∈ hm_ws := List.mem_filter.mpr ⟨List.mem_of_getElem? (i := 494) rfl, rfl⟩
set_option maxRecDepth 100000 in
theorem kw_528 : Cond.arrayClass .boolean ∈ hm_ws := List.mem_filter.mpr ⟨List.mem_of_getElem? (i := 528) rfl, rfl⟩
set_option maxRecDepth 100000 in
theorem kw_529 : Cond.methodLink RL 53 yX4_thrown ∈ hm_ws := List.mem_filter.mpr ⟨List.mem_of_getElem? (i := 529) rfl, rfl⟩
set_option maxRecDepth 100000 in
theorem kw_530 : Cond.instanceMethod yX4_thrown ∈ hm_ws := List.mem_filter.mpr ⟨List.mem_of_getElem? (i := 530) rfl, rfl⟩
set_option maxRecDepth 100000 in
theorem kw_531 : Cond.selects RX4 yX4_thrown yX4_thrown ∈ hm_ws := List.mem_filter.mpr ⟨List.mem_of_getElem? (i := 531) rfl, rfl⟩
set_option maxRecDepth 100000 in
theorem kw_532 : Cond.code yX4_thrown cX4_thrown 1 (some .int) ∈ hm_ws := List.mem_filter.mpr ⟨List.mem_of_getElem? (i := 532) rfl, rfl⟩
set_option maxRecDepth 100000 in
theorem kw_533 : Cond.methodLink RL 46 yX4_value ∈ hm_ws := List.mem_filter.mpr ⟨List.mem_of_getElem? (i := 533) rfl, rfl⟩
set_option maxRecDepth 100000 in
theorem kw_534 : Cond.instanceMethod yX4_value ∈ hm_ws := List.mem_filter.mpr ⟨List.mem_of_getElem? (i := 534) rfl, rfl⟩
set_option maxRecDepth 100000 in
theorem kw_535 : Cond.selects RX4 yX4_value yX4_value ∈ hm_ws := List.mem_filter.mpr ⟨List.mem_of_getElem? (i := 535) rfl, rfl⟩
set_option maxRecDepth 100000 in
theorem kw_536 : Cond.code yX4_value cX4_value 3 (some .int) ∈ hm_ws := List.mem_filter.mpr ⟨List.mem_of_getElem? (i := 536) rfl, rfl⟩
set_option maxRecDepth 100000 in
theorem kw_537 : Cond.methodLink RX4 84 yX4_loadLong ∈ hm_ws := List.mem_filter.mpr ⟨List.mem_of_getElem? (i := 537) rfl, rfl⟩
set_option maxRecDepth 100000 in
theorem kw_539 : Cond.instanceMethod yX4_loadLong ∈ hm_ws := List.mem_filter.mpr ⟨List.mem_of_getElem? (i := 539) rfl, rfl⟩
set_option maxRecDepth 100000 in
theorem kw_540 : Cond.code yX4_loadLong cX4_loadLong 6 none ∈ hm_ws := List.mem_filter.mpr ⟨List.mem_of_getElem? (i := 540) rfl, rfl⟩
set_option maxRecDepth 100000 in
theorem kw_541 : Cond.methodLink RX4 60 yX4_clear ∈ hm_ws := List.mem_filter.mpr ⟨List.mem_of_getElem? (i := 541) rfl, rfl⟩
set_option maxRecDepth 100000 in
theorem kw_543 : Cond.instanceMethod yX4_clear ∈ hm_ws := List.mem_filter.mpr ⟨List.mem_of_getElem? (i := 543) rfl, rfl⟩
set_option maxRecDepth 100000 in
theorem kw_544 : Cond.code yX4_clear cX4_clear 3 none ∈ hm_ws := List.mem_filter.mpr ⟨List.mem_of_getElem? (i := 544) rfl, rfl⟩
set_option maxRecDepth 100000 in
theorem kw_545 : Cond.constantLong RX4 70 65535 ∈ hm_ws := List.mem_filter.mpr ⟨List.mem_of_getElem? (i := 545) rfl, rfl⟩
set_option maxRecDepth 100000 in
theorem kw_546 : Cond.methodLink RX4 72 yX4_sizeOf ∈ hm_ws := List.mem_filter.mpr ⟨List.mem_of_getElem? (i := 546) rfl, rfl⟩
set_option maxRecDepth 100000 in
theorem kw_547 : Cond.static yX4_sizeOf ∈ hm_ws := List.mem_filter.mpr ⟨List.mem_of_getElem? (i := 547) rfl, rfl⟩
set_option maxRecDepth 100000 in
theorem kw_548 : Cond.code yX4_sizeOf cX4_sizeOf 3 (some .int) ∈ hm_ws := List.mem_filter.mpr ⟨List.mem_of_getElem? (i := 548) rfl, rfl⟩
set_option maxRecDepth 100000 in
theorem kw_549 : Cond.methodLink RX4 88 yX4_keep ∈ hm_ws := List.mem_filter.mpr ⟨List.mem_of_getElem? (i := 549) rfl, rfl⟩
set_option maxRecDepth 100000 in
theorem kw_551 : Cond.instanceMethod yX4_keep ∈ hm_ws := List.mem_filter.mpr ⟨List.mem_of_getElem? (i := 551) rfl, rfl⟩
set_option maxRecDepth 100000 in
theorem kw_552 : Cond.code yX4_keep cX4_keep 3 (some .int) ∈ hm_ws := List.mem_filter.mpr ⟨List.mem_of_getElem? (i := 552) rfl, rfl⟩
set_option maxRecDepth 100000 in
theorem kw_553 : Cond.methodLink RX4 76 yX4_isTooWide ∈ hm_ws := List.mem_filter.mpr ⟨List.mem_of_getElem? (i := 553) rfl, rfl⟩
set_option maxRecDepth 100000 in
theorem kw_555 : Cond.instanceMethod yX4_isTooWide ∈ hm_ws := List.mem_filter.mpr ⟨List.mem_of_getElem? (i := 555) rfl, rfl⟩
set_option maxRecDepth 100000 in
theorem kw_556 : Cond.code yX4_isTooWide cX4_isTooWide 1 (some .boolean) ∈ hm_ws := List.mem_filter.mpr ⟨List.mem_of_getElem? (i := 556) rfl, rfl⟩
set_option maxRecDepth 100000 in
theorem kw_557 : Cond.methodLink RL 52 yX4_add ∈ hm_ws := List.mem_filter.mpr ⟨List.mem_of_getElem? (i := 557) rfl, rfl⟩
set_option maxRecDepth 100000 in
theorem kw_558 : Cond.instanceMethod yX4_add ∈ hm_ws := List.mem_filter.mpr ⟨List.mem_of_getElem? (i := 558) rfl, rfl⟩
set_option maxRecDepth 100000 in
theorem kw_559 : Cond.selects RX4 yX4_add yX4_add ∈ hm_ws := List.mem_filter.mpr ⟨List.mem_of_getElem? (i := 559) rfl, rfl⟩
set_option maxRecDepth 100000 in
theorem kw_560 : Cond.code yX4_add cX4_add 5 (some .int) ∈ hm_ws := List.mem_filter.mpr ⟨List.mem_of_getElem? (i := 560) rfl, rfl⟩
set_option maxRecDepth 100000 in
theorem kw_561 : Cond.methodLink RX4 92 yX4_areKnown ∈ hm_ws := List.mem_filter.mpr ⟨List.mem_of_getElem? (i := 561) rfl, rfl⟩
set_option maxRecDepth 100000 in
theorem kw_563 : Cond.instanceMethod yX4_areKnown ∈ hm_ws := List.mem_filter.mpr ⟨List.mem_of_getElem? (i := 563) rfl, rfl⟩
set_option maxRecDepth 100000 in
theorem kw_564 : Cond.code yX4_areKnown cX4_areKnown 3 (some .boolean) ∈ hm_ws := List.mem_filter.mpr ⟨List.mem_of_getElem? (i := 564) rfl, rfl⟩
set_option maxRecDepth 100000 in
theorem kw_565 : Cond.methodLink RX4 56 yX4_isKnown ∈ hm_ws := List.mem_filter.mpr ⟨List.mem_of_getElem? (i := 565) rfl, rfl⟩
set_option maxRecDepth 100000 in
theorem kw_567 : Cond.instanceMethod yX4_isKnown ∈ hm_ws := List.mem_filter.mpr ⟨List.mem_of_getElem? (i := 567) rfl, rfl⟩
set_option maxRecDepth 100000 in
theorem kw_568 : Cond.code yX4_isKnown cX4_isKnown 2 (some .boolean) ∈ hm_ws := List.mem_filter.mpr ⟨List.mem_of_getElem? (i := 568) rfl, rfl⟩
set_option maxRecDepth 100000 in
theorem kw_569 : Cond.methodLink RX4 96 yX4_load ∈ hm_ws := List.mem_filter.mpr ⟨List.mem_of_getElem? (i := 569) rfl, rfl⟩
set_option maxRecDepth 100000 in
theorem kw_571 : Cond.instanceMethod yX4_load ∈ hm_ws := List.mem_filter.mpr ⟨List.mem_of_getElem? (i := 571) rfl, rfl⟩
set_option maxRecDepth 100000 in
theorem kw_572 : Cond.code yX4_load cX4_load 3 none ∈ hm_ws := List.mem_filter.mpr ⟨List.mem_of_getElem? (i := 572) rfl, rfl⟩
set_option maxRecDepth 100000 in
theorem kw_573 : Cond.methodLink RX4 100 yX4_loadOther ∈ hm_ws := List.mem_filter.mpr ⟨List.mem_of_getElem? (i := 573) rfl, rfl⟩
set_option maxRecDepth 100000 in
theorem kw_575 : Cond.instanceMethod yX4_loadOther ∈ hm_ws := List.mem_filter.mpr ⟨List.mem_of_getElem? (i := 575) rfl, rfl⟩
set_option maxRecDepth 100000 in
theorem kw_576 : Cond.code yX4_loadOther cX4_loadOther 3 none ∈ hm_ws := List.mem_filter.mpr ⟨List.mem_of_getElem? (i := 576) rfl, rfl⟩
set_option maxRecDepth 100000 in
theorem kw_577 : Cond.methodLink RX4 103 yX4_grow ∈ hm_ws := List.mem_filter.mpr ⟨List.mem_of_getElem? (i := 577) rfl, rfl⟩
set_option maxRecDepth 100000 in
theorem kw_579 : Cond.instanceMethod yX4_grow ∈ hm_ws := List.mem_filter.mpr ⟨List.mem_of_getElem? (i := 579) rfl, rfl⟩
set_option maxRecDepth 100000 in
theorem kw_580 : Cond.code yX4_grow cX4_grow 5 none ∈ hm_ws := List.mem_filter.mpr ⟨List.mem_of_getElem? (i := 580) rfl, rfl⟩
set_option maxRecDepth 100000 in
theorem kw_581 : Cond.constant RX4 80 65535 ∈ hm_ws := List.mem_filter.mpr ⟨List.mem_of_getElem? (i := 581) rfl, rfl⟩
set_option maxRecDepth 100000 in
theorem kw_582 : Cond.methodLink RX4 106 yX4_compare ∈ hm_ws := List.mem_filter.mpr ⟨List.mem_of_getElem? (i := 582) rfl, rfl⟩
set_option maxRecDepth 100000 in
theorem kw_584 : Cond.instanceMethod yX4_compare ∈ hm_ws := List.mem_filter.mpr ⟨List.mem_of_getElem? (i := 584) rfl, rfl⟩
set_option maxRecDepth 100000 in
theorem kw_585 : Cond.code yX4_compare cX4_compare 2 (some .int) ∈ hm_ws := List.mem_filter.mpr ⟨List.mem_of_getElem? (i := 585) rfl, rfl⟩
set_option maxRecDepth 100000 in
theorem kw_586 : Cond.methodLink RX4 110 yX4_shrink ∈ hm_ws := List.mem_filter.mpr ⟨List.mem_of_getElem? (i := 586) rfl, rfl⟩
set_option maxRecDepth 100000 in
theorem kw_588 : Cond.instanceMethod yX4_shrink ∈ hm_ws := List.mem_filter.mpr ⟨List.mem_of_getElem? (i := 588) rfl, rfl⟩
set_option maxRecDepth 100000 in
theorem kw_589 : Cond.code yX4_shrink cX4_shrink 6 none ∈ hm_ws := List.mem_filter.mpr ⟨List.mem_of_getElem? (i := 589) rfl, rfl⟩
set_option maxRecDepth 100000 in
theorem kw_590 : Cond.methodLink RL 59 yX4_times ∈ hm_ws := List.mem_filter.mpr ⟨List.mem_of_getElem? (i := 590) rfl, rfl⟩
set_option maxRecDepth 100000 in
theorem kw_591 : Cond.instanceMethod yX4_times ∈ hm_ws := List.mem_filter.mpr ⟨List.mem_of_getElem? (i := 591) rfl, rfl⟩
set_option maxRecDepth 100000 in
theorem kw_592 : Cond.selects RX4 yX4_times yX4_times ∈ hm_ws := List.mem_filter.mpr ⟨List.mem_of_getElem? (i := 592) rfl, rfl⟩
set_option maxRecDepth 100000 in
theorem kw_593 : Cond.code yX4_times cX4_times 3 (some .int) ∈ hm_ws := List.mem_filter.mpr ⟨List.mem_of_getElem? (i := 593) rfl, rfl⟩
set_option maxRecDepth 100000 in
theorem kw_594 : Cond.methodLink RX4 114 yX4_multiply ∈ hm_ws := List.mem_filter.mpr ⟨List.mem_of_getElem? (i := 594) rfl, rfl⟩
set_option maxRecDepth 100000 in
theorem kw_596 : Cond.instanceMethod yX4_multiply ∈ hm_ws := List.mem_filter.mpr ⟨List.mem_of_getElem? (i := 596) rfl, rfl⟩
set_option maxRecDepth 100000 in
theorem kw_597 : Cond.code yX4_multiply cX4_multiply 6 none ∈ hm_ws := List.mem_filter.mpr ⟨List.mem_of_getElem? (i := 597) rfl, rfl⟩
set_option maxRecDepth 100000 in
theorem kw_598 : Cond.methodLink RL 62 yX4_over ∈ hm_ws := List.mem_filter.mpr ⟨List.mem_of_getElem? (i := 598) rfl, rfl⟩
set_option maxRecDepth 100000 in
theorem kw_599 : Cond.instanceMethod yX4_over ∈ hm_ws := List.mem_filter.mpr ⟨List.mem_of_getElem? (i := 599) rfl, rfl⟩
set_option maxRecDepth 100000 in
theorem kw_600 : Cond.selects RX4 yX4_over yX4_over ∈ hm_ws := List.mem_filter.mpr ⟨List.mem_of_getElem? (i := 600) rfl, rfl⟩
set_option maxRecDepth 100000 in
theorem kw_601 : Cond.code yX4_over cX4_over 3 (some .int) ∈ hm_ws := List.mem_filter.mpr ⟨List.mem_of_getElem? (i := 601) rfl, rfl⟩
set_option maxRecDepth 100000 in
theorem kw_602 : Cond.methodLink RX4 117 yX4_divide ∈ hm_ws := List.mem_filter.mpr ⟨List.mem_of_getElem? (i := 602) rfl, rfl⟩
set_option maxRecDepth 100000 in
theorem kw_604 : Cond.instanceMethod yX4_divide ∈ hm_ws := List.mem_filter.mpr ⟨List.mem_of_getElem? (i := 604) rfl, rfl⟩
set_option maxRecDepth 100000 in
theorem kw_605 : Cond.code yX4_divide cX4_divide 7 none ∈ hm_ws := List.mem_filter.mpr ⟨List.mem_of_getElem? (i := 605) rfl, rfl⟩
set_option maxRecDepth 100000 in
theorem kw_606 : Cond.methodLink RX4 81 yX4_reaches ∈ hm_ws := List.mem_filter.mpr ⟨List.mem_of_getElem? (i := 606) rfl, rfl⟩
set_option maxRecDepth 100000 in
theorem kw_608 : Cond.instanceMethod yX4_reaches ∈ hm_ws := List.mem_filter.mpr ⟨List.mem_of_getElem? (i := 608) rfl, rfl⟩
set_option maxRecDepth 100000 in
theorem kw_609 : Cond.code yX4_reaches cX4_reaches 2 (some .boolean) ∈ hm_ws := List.mem_filter.mpr ⟨List.mem_of_getElem? (i := 609) rfl, rfl⟩
set_option maxRecDepth 100000 in
theorem kw_610 : Cond.methodLink RL 65 yX4_power ∈ hm_ws := List.mem_filter.mpr ⟨List.mem_of_getElem? (i := 610) rfl, rfl⟩
set_option maxRecDepth 100000 in
theorem kw_611 : Cond.instanceMethod yX4_power ∈ hm_ws := List.mem_filter.mpr ⟨List.mem_of_getElem? (i := 611) rfl, rfl⟩
set_option maxRecDepth 100000 in
theorem kw_612 : Cond.selects RX4 yX4_power yX4_power ∈ hm_ws := List.mem_filter.mpr ⟨List.mem_of_getElem? (i := 612) rfl, rfl⟩
set_option maxRecDepth 100000 in
theorem kw_613 : Cond.code yX4_power cX4_power 5 (some .int) ∈ hm_ws := List.mem_filter.mpr ⟨List.mem_of_getElem? (i := 613) rfl, rfl⟩
set_option maxRecDepth 100000 in
theorem kw_614 : Cond.constant RX4 120 1000000 ∈ hm_ws := List.mem_filter.mpr ⟨List.mem_of_getElem? (i := 614) rfl, rfl⟩
set_option maxRecDepth 100000 in
theorem kw_615 : Cond.methodLink RL 69 yX4_binomial ∈ hm_ws := List.mem_filter.mpr ⟨List.mem_of_getElem? (i := 615) rfl, rfl⟩
set_option maxRecDepth 100000 in
theorem kw_616 : Cond.instanceMethod yX4_binomial ∈ hm_ws := List.mem_filter.mpr ⟨List.mem_of_getElem? (i := 616) rfl, rfl⟩
set_option maxRecDepth 100000 in
theorem kw_617 : Cond.selects RX4 yX4_binomial yX4_binomial ∈ hm_ws := List.mem_filter.mpr ⟨List.mem_of_getElem? (i := 617) rfl, rfl⟩
set_option maxRecDepth 100000 in
theorem kw_618 : Cond.code yX4_binomial cX4_binomial 5 (some .int) ∈ hm_ws := List.mem_filter.mpr ⟨List.mem_of_getElem? (i := 618) rfl, rfl⟩
set_option maxRecDepth 100000 in
theorem kw_619 : Cond.methodLink RX4 121 yX4_multiplyBy ∈ hm_ws := List.mem_filter.mpr ⟨List.mem_of_getElem? (i := 619) rfl, rfl⟩
set_option maxRecDepth 100000 in
theorem kw_621 : Cond.instanceMethod yX4_multiplyBy ∈ hm_ws := List.mem_filter.mpr ⟨List.mem_of_getElem? (i := 621) rfl, rfl⟩
set_option maxRecDepth 100000 in
theorem kw_622 : Cond.code yX4_multiplyBy cX4_multiplyBy 5 none ∈ hm_ws := List.mem_filter.mpr ⟨List.mem_of_getElem? (i := 622) rfl, rfl⟩
set_option maxRecDepth 100000 in
theorem kw_623 : Cond.methodLink RX4 124 yX4_divideBy ∈ hm_ws := List.mem_filter.mpr ⟨List.mem_of_getElem? (i := 623) rfl, rfl⟩
set_option maxRecDepth 100000 in
theorem kw_625 : Cond.instanceMethod yX4_divideBy ∈ hm_ws := List.mem_filter.mpr ⟨List.mem_of_getElem? (i := 625) rfl, rfl⟩
set_option maxRecDepth 100000 in
theorem kw_626 : Cond.code yX4_divideBy cX4_divideBy 5 (some .int) ∈ hm_ws := List.mem_filter.mpr ⟨List.mem_of_getElem? (i := 626) rfl, rfl⟩
set_option maxRecDepth 100000 in
theorem kw_627 : Cond.methodLink RL 74 yX4_factorial ∈ hm_ws := List.mem_filter.mpr ⟨List.mem_of_getElem? (i := 627) rfl, rfl⟩
set_option maxRecDepth 100000 in
theorem kw_628 : Cond.instanceMethod yX4_factorial ∈ hm_ws := List.mem_filter.mpr ⟨List.mem_of_getElem? (i := 628) rfl, rfl⟩
set_option maxRecDepth 100000 in
theorem kw_629 : Cond.selects RX4 yX4_factorial yX4_factorial ∈ hm_ws := List.mem_filter.mpr ⟨List.mem_of_getElem? (i := 629) rfl, rfl⟩
set_option maxRecDepth 100000 in
theorem kw_630 : Cond.code yX4_factorial cX4_factorial 3 (some .int) ∈ hm_ws := List.mem_filter.mpr ⟨List.mem_of_getElem? (i := 630) rfl, rfl⟩
set_option maxRecDepth 100000 in
theorem kw_631 : Cond.methodLink RL 77 yX4_order ∈ hm_ws := List.mem_filter.mpr ⟨List.mem_of_getElem? (i := 631) rfl, rfl⟩
set_option maxRecDepth 100000 in
theorem kw_632 : Cond.instanceMethod yX4_order ∈ hm_ws := List.mem_filter.mpr ⟨List.mem_of_getElem? (i := 632) rfl, rfl⟩
set_option maxRecDepth 100000 in
theorem kw_633 : Cond.selects RX4 yX4_order yX4_order ∈ hm_ws := List.mem_filter.mpr ⟨List.mem_of_getElem? (i := 633) rfl, rfl⟩
set_option maxRecDepth 100000 in
theorem kw_634 : Cond.code yX4_order cX4_order 3 (some .int) ∈ hm_ws := List.mem_filter.mpr ⟨List.mem_of_getElem? (i := 634) rfl, rfl⟩
set_option maxRecDepth 100000 in
theorem kw_635 : Cond.methodLink RL 80 yX4_digit ∈ hm_ws := List.mem_filter.mpr ⟨List.mem_of_getElem? (i := 635) rfl, rfl⟩
set_option maxRecDepth 100000 in
theorem kw_636 : Cond.instanceMethod yX4_digit ∈ hm_ws := List.mem_filter.mpr ⟨List.mem_of_getElem? (i := 636) rfl, rfl⟩
set_option maxRecDepth 100000 in
theorem kw_637 : Cond.selects RX4 yX4_digit yX4_digit ∈ hm_ws := List.mem_filter.mpr ⟨List.mem_of_getElem? (i := 637) rfl, rfl⟩
set_option maxRecDepth 100000 in
theorem kw_638 : Cond.code yX4_digit cX4_digit 5 (some .int) ∈ hm_ws := List.mem_filter.mpr ⟨List.mem_of_getElem? (i := 638) rfl, rfl⟩
set_option maxRecDepth 100000 in
theorem kw_639 : Cond.methodLink RL 93 yX4_residue ∈ hm_ws := List.mem_filter.mpr ⟨List.mem_of_getElem? (i := 639) rfl, rfl⟩
set_option maxRecDepth 100000 in
theorem kw_640 : Cond.instanceMethod yX4_residue ∈ hm_ws := List.mem_filter.mpr ⟨List.mem_of_getElem? (i := 640) rfl, rfl⟩
set_option maxRecDepth 100000 in
theorem kw_641 : Cond.selects RX4 yX4_residue yX4_residue ∈ hm_ws := List.mem_filter.mpr ⟨List.mem_of_getElem? (i := 641) rfl, rfl⟩
set_option maxRecDepth 100000 in
theorem kw_642 : Cond.code yX4_residue cX4_residue 9 (some .long) ∈ hm_ws := List.mem_filter.mpr ⟨List.mem_of_getElem? (i := 642) rfl, rfl⟩
set_option maxRecDepth 100000 in
theorem kw_643 : Cond.constantLong RX4 128 (-9223372036854775808) ∈ hm_ws := List.mem_filter.mpr ⟨List.mem_of_getElem? (i := 643) rfl, rfl⟩
set_option maxRecDepth 100000 in
theorem kw_644 : Cond.methodLink RL 97 yX4_kept ∈ hm_ws := List.mem_filter.mpr ⟨List.mem_of_getElem? (i := 644) rfl, rfl⟩
set_option maxRecDepth 100000 in
theorem kw_645 : Cond.instanceMethod yX4_kept ∈ hm_ws := List.mem_filter.mpr ⟨List.mem_of_getElem? (i := 645) rfl, rfl⟩
set_option maxRecDepth 100000 in
theorem kw_646 : Cond.selects RX4 yX4_kept yX4_kept ∈ hm_ws := List.mem_filter.mpr ⟨List.mem_of_getElem? (i := 646) rfl, rfl⟩
set_option maxRecDepth 100000 in
theorem kw_647 : Cond.code yX4_kept cX4_kept 1 (some .int) ∈ hm_ws := List.mem_filter.mpr ⟨List.mem_of_getElem? (i := 647) rfl, rfl⟩
set_option maxRecDepth 100000 in
theorem kw_648 : Cond.methodLink RL 85 yX4_entry ∈ hm_ws := List.mem_filter.mpr ⟨List.mem_of_getElem? (i := 648) rfl, rfl⟩
set_option maxRecDepth 100000 in
theorem kw_649 : Cond.instanceMethod yX4_entry ∈ hm_ws := List.mem_filter.mpr ⟨List.mem_of_getElem? (i := 649) rfl, rfl⟩
set_option maxRecDepth 100000 in
theorem kw_650 : Cond.selects RX4 yX4_entry yX4_entry ∈ hm_ws := List.mem_filter.mpr ⟨List.mem_of_getElem? (i := 650) rfl, rfl⟩
set_option maxRecDepth 100000 in
theorem kw_651 : Cond.code yX4_entry cX4_entry 5 (some .boolean) ∈ hm_ws := List.mem_filter.mpr ⟨List.mem_of_getElem? (i := 651) rfl, rfl⟩
set_option maxRecDepth 100000 in
theorem kw_652 : Cond.methodLink RL 89 yX4_determinant ∈ hm_ws := List.mem_filter.mpr ⟨List.mem_of_getElem? (i := 652) rfl, rfl⟩
set_option maxRecDepth 100000 in
theorem kw_653 : Cond.instanceMethod yX4_determinant ∈ hm_ws := List.mem_filter.mpr ⟨List.mem_of_getElem? (i := 653) rfl, rfl⟩
set_option maxRecDepth 100000 in
theorem kw_654 : Cond.selects RX4 yX4_determinant yX4_determinant ∈ hm_ws := List.mem_filter.mpr ⟨List.mem_of_getElem? (i := 654) rfl, rfl⟩
set_option maxRecDepth 100000 in
theorem kw_655 : Cond.code yX4_determinant cX4_determinant 4 (some .int) ∈ hm_ws := List.mem_filter.mpr ⟨List.mem_of_getElem? (i := 655) rfl, rfl⟩
set_option maxRecDepth 100000 in
theorem kw_656 : Cond.methodLink RX4 141 yX4_minorOf ∈ hm_ws := List.mem_filter.mpr ⟨List.mem_of_getElem? (i := 656) rfl, rfl⟩
set_option maxRecDepth 100000 in
theorem kw_658 : Cond.instanceMethod yX4_minorOf ∈ hm_ws := List.mem_filter.mpr ⟨List.mem_of_getElem? (i := 658) rfl, rfl⟩
set_option maxRecDepth 100000 in
theorem kw_659 : Cond.code yX4_minorOf cX4_minorOf 9 none ∈ hm_ws := List.mem_filter.mpr ⟨List.mem_of_getElem? (i := 659) rfl, rfl⟩
set_option maxRecDepth 100000 in
theorem kw_660 : Cond.methodLink RX4 130 yX4_bits ∈ hm_ws := List.mem_filter.mpr ⟨List.mem_of_getElem? (i := 660) rfl, rfl⟩
set_option maxRecDepth 100000 in
theorem kw_661 : Cond.static yX4_bits ∈ hm_ws := List.mem_filter.mpr ⟨List.mem_of_getElem? (i := 661) rfl, rfl⟩
set_option maxRecDepth 100000 in
theorem kw_662 : Cond.code yX4_bits cX4_bits 3 (some .int) ∈ hm_ws := List.mem_filter.mpr ⟨List.mem_of_getElem? (i := 662) rfl, rfl⟩
set_option maxRecDepth 100000 in
theorem kw_663 : Cond.methodLink RX4 133 yX4_product ∈ hm_ws := List.mem_filter.mpr ⟨List.mem_of_getElem? (i := 663) rfl, rfl⟩
set_option maxRecDepth 100000 in
theorem kw_665 : Cond.instanceMethod yX4_product ∈ hm_ws := List.mem_filter.mpr ⟨List.mem_of_getElem? (i := 665) rfl, rfl⟩
set_option maxRecDepth 100000 in
theorem kw_666 : Cond.code yX4_product cX4_product 15 none ∈ hm_ws := List.mem_filter.mpr ⟨List.mem_of_getElem? (i := 666) rfl, rfl⟩
set_option maxRecDepth 100000 in
theorem kw_667 : Cond.methodLink RX4 137 yX4_addTo ∈ hm_ws := List.mem_filter.mpr ⟨List.mem_of_getElem? (i := 667) rfl, rfl⟩
set_option maxRecDepth 100000 in
theorem kw_669 : Cond.instanceMethod yX4_addTo ∈ hm_ws := List.mem_filter.mpr ⟨List.mem_of_getElem? (i := 669) rfl, rfl⟩
set_option maxRecDepth 100000 in
theorem kw_670 : Cond.code yX4_addTo cX4_addTo 6 none ∈ hm_ws := List.mem_filter.mpr ⟨List.mem_of_getElem? (i := 670) rfl, rfl⟩
set_option maxRecDepth 100000 in
theorem kw_671 : Cond.constantLong RL 40 4294967295 ∈ hm_ws := List.mem_filter.mpr ⟨List.mem_of_getElem? (i := 671) rfl, rfl⟩
theorem kin_X0 : ∀ w ∈ wsX00, w ∈ hm_ws := by
  have h : ∀ w ∈ wsX00, w ∈ lw_tbl ∧ goodWord w = true := by decide +kernel
  exact fun w hw => List.mem_filter.mpr (h w hw)
theorem kin_X1 : ∀ w ∈ wsX10, w ∈ hm_ws := by
  have h : ∀ w ∈ wsX10, w ∈ lw_tbl ∧ goodWord w = true := by decide +kernel
  exact fun w hw => List.mem_filter.mpr (h w hw)
theorem kin_X2 : ∀ w ∈ wsX20, w ∈ hm_ws := by
  have h : ∀ w ∈ wsX20, w ∈ lw_tbl ∧ goodWord w = true := by decide +kernel
  exact fun w hw => List.mem_filter.mpr (h w hw)
theorem kin_X3 : ∀ w ∈ wsX30, w ∈ hm_ws := by
  have h : ∀ w ∈ wsX30, w ∈ lw_tbl ∧ goodWord w = true := by decide +kernel
  exact fun w hw => List.mem_filter.mpr (h w hw)
theorem kin_X4 : ∀ w ∈ wsX40, w ∈ hm_ws := by
  have h : ∀ w ∈ wsX40, w ∈ lw_tbl ∧ goodWord w = true := by decide +kernel
  exact fun w hw => List.mem_filter.mpr (h w hw)
theorem hm_gw {w : Cond} (h : w ∈ hm_ws) : (w.onTables && w.keeps) = true ∨ ∃ ty, w = .arrayClass ty := good_of_word (List.mem_filter.mp h).2
/-- a callee's words among a caller's -/
theorem hm_gI {c0 cy : Cond} (hc : cy ∈ hm_ws) : GoodIn (c0 :: hm_ws) (cy :: hm_ws) := fun w hw => by
  have h : w ∈ hm_ws := by
    rcases List.mem_cons.mp hw with q | q
    · rw [q]; exact hc
    · exact q
  exact ⟨List.mem_cons_of_mem _ h, hm_gw h⟩
theorem hm_gV {c0 cy : Cond} {own C : String} {idx : Nat} {y : MethodName} (h1 : Cond.methodLink own idx y ∈ hm_ws) (h2 : Cond.instanceMethod y ∈ hm_ws) (h3 : Cond.selects C y y ∈ hm_ws) (h4 : Cond.initialized C ∈ hm_ws) (hc : cy ∈ hm_ws) : GoodIn (c0 :: hm_ws) (wsV own idx C y (cy :: hm_ws)) := fun w hw => by
  have h : w ∈ hm_ws := by
    rcases List.mem_append.mp hw with q | q
    · simp only [List.mem_cons, List.not_mem_nil, or_false] at q
      rcases q with q | q | q | q <;> rw [q] <;> assumption
    · rcases List.mem_cons.mp q with q | q
      · rw [q]; exact hc
      · exact q
  exact ⟨List.mem_cons_of_mem _ h, hm_gw h⟩
theorem hm_gS {c0 cy : Cond} {own : String} {idx : Nat} {y : MethodName} (h1 : Cond.methodLink own idx y ∈ hm_ws) (h2 : Cond.static y ∈ hm_ws) (h3 : Cond.initialized y.cls ∈ hm_ws) (hc : cy ∈ hm_ws) : GoodIn (c0 :: hm_ws) (va_wsS own idx y (cy :: hm_ws)) := fun w hw => by
  have h : w ∈ hm_ws := by
    rcases List.mem_append.mp hw with q | q
    · simp only [List.mem_cons, List.not_mem_nil, or_false] at q
      rcases q with q | q | q <;> rw [q] <;> assumption
    · rcases List.mem_cons.mp q with q | q
      · rw [q]; exact hc
      · exact q
  exact ⟨List.mem_cons_of_mem _ h, hm_gw h⟩
