theorem mh_t1 {w : Cond} (h : w ∈ tables_1_1) : w ∈ tables_1 := List.mem_append_left _ h
theorem mh_t2 {w : Cond} (h : w ∈ tables_1_2) : w ∈ tables_1 := List.mem_append_right _ (List.mem_append_left _ h)
theorem mh_t3 {w : Cond} (h : w ∈ tables_1_3) : w ∈ tables_1 := List.mem_append_right _ (List.mem_append_right _ (List.mem_append_left _ h))
theorem mh_t4 {w : Cond} (h : w ∈ tables_1_4) : w ∈ tables_1 := List.mem_append_right _ (List.mem_append_right _ (List.mem_append_right _ (List.mem_append_left _ h)))
theorem mh_t5 {w : Cond} (h : w ∈ tables_1_5) : w ∈ tables_1 := List.mem_append_right _ (List.mem_append_right _ (List.mem_append_right _ (List.mem_append_right _ h)))
theorem mh_tb1 {w : Cond} (h : w ∈ tables_1) (g : goodWord w = true) : w ∈ mh_TB := List.mem_filter.mpr ⟨List.mem_append_right _ h, g⟩
theorem mh_tb0 (k : Nat) {w : Cond} (h : (k2_sels lw_privs)[k]? = some w) (g : goodWord w = true) : w ∈ mh_TB := List.mem_filter.mpr ⟨List.mem_append_left _ (List.mem_of_getElem? h), g⟩
theorem mh_nw1 {w : Cond} (h : w ∈ tables_1) (g : mh_nest w = true) : w ∈ mh_NW := List.mem_filter.mpr ⟨h, g⟩
theorem mh_lay {ws : List Cond} (h1 : ∀ w ∈ ws, w ∈ lw_tbl) (h2 : ws.all goodWord = true) : ∀ w ∈ ws, w ∈ mh_TB := fun w h => List.mem_filter.mpr ⟨h1 w h, List.all_eq_true.mp h2 w h⟩
theorem wd_0 : Cond.initialized RL ∈ mh_TB := mh_tb1 (mh_t1 (List.mem_of_getElem? (i := 0) rfl)) rfl
theorem wd_1 : Cond.initialized RX5 ∈ mh_TB := mh_tb1 (mh_t1 (List.mem_of_getElem? (i := 1) rfl)) rfl
theorem wd_2 : Cond.initialized RX1 ∈ mh_TB := mh_tb1 (mh_t1 (List.mem_of_getElem? (i := 2) rfl)) rfl
theorem wd_3 : Cond.initialized RX3 ∈ mh_TB := mh_tb1 (mh_t1 (List.mem_of_getElem? (i := 3) rfl)) rfl
theorem wd_4 : Cond.initialized RX0 ∈ mh_TB := mh_tb1 (mh_t1 (List.mem_of_getElem? (i := 4) rfl)) rfl
theorem wd_5 : Cond.initialized RX4 ∈ mh_TB := mh_tb1 (mh_t1 (List.mem_of_getElem? (i := 5) rfl)) rfl
theorem wd_6 : Cond.initialized RX2 ∈ mh_TB := mh_tb1 (mh_t1 (List.mem_of_getElem? (i := 6) rfl)) rfl
theorem wd_7 : Cond.initialized RJ0 ∈ mh_TB := mh_tb1 (mh_t1 (List.mem_of_getElem? (i := 7) rfl)) rfl
theorem wd_8 : Cond.initialized RJ1 ∈ mh_TB := mh_tb1 (mh_t1 (List.mem_of_getElem? (i := 8) rfl)) rfl
theorem wd_9 : Cond.initialized RJ3 ∈ mh_TB := mh_tb1 (mh_t1 (List.mem_of_getElem? (i := 9) rfl)) rfl
theorem wd_10 : Cond.initialized RJ2 ∈ mh_TB := mh_tb1 (mh_t1 (List.mem_of_getElem? (i := 10) rfl)) rfl
theorem wd_11 : Cond.initialized RX6 ∈ mh_TB := mh_tb1 (mh_t1 (List.mem_of_getElem? (i := 11) rfl)) rfl
theorem wd_12 : Cond.initialized RJ13 ∈ mh_TB := mh_tb1 (mh_t1 (List.mem_of_getElem? (i := 12) rfl)) rfl
theorem wd_13 : Cond.initialized RJ9 ∈ mh_TB := mh_tb1 (mh_t1 (List.mem_of_getElem? (i := 13) rfl)) rfl
theorem wd_14 : Cond.initialized RJ6 ∈ mh_TB := mh_tb1 (mh_t1 (List.mem_of_getElem? (i := 14) rfl)) rfl
theorem wd_15 : Cond.initialized RJ10 ∈ mh_TB := mh_tb1 (mh_t1 (List.mem_of_getElem? (i := 15) rfl)) rfl
theorem wd_16 : Cond.classLink RL 7 RX5 ∈ mh_TB := mh_tb1 (mh_t1 (List.mem_of_getElem? (i := 16) rfl)) rfl
theorem wd_17 : Cond.instantiable RX5 9 ∈ mh_TB := mh_tb1 (mh_t1 (List.mem_of_getElem? (i := 17) rfl)) rfl
theorem wd_18 : Cond.methodLink RL 9 yX5_init ∈ mh_TB := mh_tb1 (mh_t1 (List.mem_of_getElem? (i := 18) rfl)) rfl
theorem wd_19 : Cond.instanceMethod yX5_init ∈ mh_TB := mh_tb1 (mh_t1 (List.mem_of_getElem? (i := 19) rfl)) rfl
theorem wd_20 : Cond.code yX5_init cX5_init 2 none ∈ mh_TB := mh_tb1 (mh_t1 (List.mem_of_getElem? (i := 20) rfl)) rfl
theorem wd_21 : Cond.methodLink RX5 1 Lib.objectInit ∈ mh_TB := mh_tb1 (mh_t1 (List.mem_of_getElem? (i := 21) rfl)) rfl
theorem wd_22 : Cond.instanceMethod Lib.objectInit ∈ mh_TB := mh_tb1 (mh_t1 (List.mem_of_getElem? (i := 22) rfl)) rfl
theorem wd_23 : Cond.code Lib.objectInit ⟨#[0xb1]⟩ 1 none ∈ mh_TB := mh_tb1 (mh_t1 (List.mem_of_getElem? (i := 23) rfl)) rfl
theorem wd_24 : Cond.classLink RX5 7 RX1 ∈ mh_TB := mh_tb1 (mh_t1 (List.mem_of_getElem? (i := 24) rfl)) rfl
theorem wd_25 : Cond.instantiable RX1 5 ∈ mh_TB := mh_tb1 (mh_t1 (List.mem_of_getElem? (i := 25) rfl)) rfl
theorem wd_26 : Cond.methodLinkNest RX5 9 yX1_init RX5 ∈ mh_NW := mh_nw1 (mh_t1 (List.mem_of_getElem? (i := 26) rfl)) rfl
theorem wd_27 : Cond.instanceMethod yX1_init ∈ mh_TB := mh_tb1 (mh_t1 (List.mem_of_getElem? (i := 27) rfl)) rfl
theorem wd_28 : Cond.code yX1_init cX1_init 1 none ∈ mh_TB := mh_tb1 (mh_t1 (List.mem_of_getElem? (i := 28) rfl)) rfl
theorem wd_29 : Cond.methodLink RX1 3 Lib.objectInit ∈ mh_TB := mh_tb1 (mh_t1 (List.mem_of_getElem? (i := 29) rfl)) rfl
theorem wd_30 : Cond.fieldLink RX1 9 RX1 "kinds" "[I" ∈ mh_TB := mh_tb1 (mh_t1 (List.mem_of_getElem? (i := 30) rfl)) rfl
theorem wd_31 : Cond.fieldLinkNest RX0 61 RX1 "kinds" "[I" RX5 ∈ mh_NW := mh_nw1 (mh_t1 (List.mem_of_getElem? (i := 31) rfl)) rfl
theorem wd_32 : Cond.fieldLinkNest RX4 54 RX1 "kinds" "[I" RX5 ∈ mh_NW := mh_nw1 (mh_t1 (List.mem_of_getElem? (i := 32) rfl)) rfl
theorem wd_33 : Cond.fieldLinkNest RX5 118 RX1 "kinds" "[I" RX5 ∈ mh_NW := mh_nw1 (mh_t1 (List.mem_of_getElem? (i := 33) rfl)) rfl
theorem wd_34 : Cond.fieldLink RX1 15 RX1 "mores" "[I" ∈ mh_TB := mh_tb1 (mh_t1 (List.mem_of_getElem? (i := 34) rfl)) rfl
theorem wd_35 : Cond.fieldLinkNest RX0 64 RX1 "mores" "[I" RX5 ∈ mh_NW := mh_nw1 (mh_t1 (List.mem_of_getElem? (i := 35) rfl)) rfl
theorem wd_36 : Cond.fieldLinkNest RX4 49 RX1 "mores" "[I" RX5 ∈ mh_NW := mh_nw1 (mh_t1 (List.mem_of_getElem? (i := 36) rfl)) rfl
theorem wd_37 : Cond.fieldLinkNest RX5 129 RX1 "mores" "[I" RX5 ∈ mh_NW := mh_nw1 (mh_t1 (List.mem_of_getElem? (i := 37) rfl)) rfl
theorem wd_38 : Cond.fieldLinkNest RX5 70 RX1 "pins" "J" RX5 ∈ mh_NW := mh_nw1 (mh_t1 (List.mem_of_getElem? (i := 38) rfl)) rfl
theorem wd_39 : Cond.fieldLink RX1 24 RX1 "pins" "J" ∈ mh_TB := mh_tb1 (mh_t1 (List.mem_of_getElem? (i := 39) rfl)) rfl
theorem wd_40 : Cond.fieldLinkNest RX5 80 RX1 "mends" "J" RX5 ∈ mh_NW := mh_nw1 (mh_t1 (List.mem_of_getElem? (i := 40) rfl)) rfl
theorem wd_41 : Cond.fieldLink RX1 28 RX1 "mends" "J" ∈ mh_TB := mh_tb1 (mh_t1 (List.mem_of_getElem? (i := 41) rfl)) rfl
theorem wd_42 : Cond.fieldLinkNest RX4 61 RX1 "mends" "J" RX5 ∈ mh_NW := mh_nw1 (mh_t1 (List.mem_of_getElem? (i := 42) rfl)) rfl
theorem wd_43 : Cond.fieldLinkNest RX5 87 RX1 "law" "I" RX5 ∈ mh_NW := mh_nw1 (mh_t1 (List.mem_of_getElem? (i := 43) rfl)) rfl
theorem wd_44 : Cond.fieldLink RX1 31 RX1 "law" "I" ∈ mh_TB := mh_tb1 (mh_t1 (List.mem_of_getElem? (i := 44) rfl)) rfl
theorem wd_56 : Cond.arrayClass .int ∈ mh_TB := mh_tb1 (mh_t1 (List.mem_of_getElem? (i := 56) rfl)) rfl
theorem wd_57 : Cond.classLink RX5 19 RX3 ∈ mh_TB := mh_tb1 (mh_t1 (List.mem_of_getElem? (i := 57) rfl)) rfl
theorem wd_58 : Cond.instantiable RX3 7 ∈ mh_TB := mh_tb1 (mh_t1 (List.mem_of_getElem? (i := 58) rfl)) rfl
theorem wd_59 : Cond.methodLinkNest RX5 21 yX3_init RX5 ∈ mh_NW := mh_nw1 (mh_t1 (List.mem_of_getElem? (i := 59) rfl)) rfl
theorem wd_60 : Cond.instanceMethod yX3_init ∈ mh_TB := mh_tb1 (mh_t1 (List.mem_of_getElem? (i := 60) rfl)) rfl
theorem wd_61 : Cond.code yX3_init cX3_init 1 none ∈ mh_TB := mh_tb1 (mh_t1 (List.mem_of_getElem? (i := 61) rfl)) rfl
theorem wd_62 : Cond.methodLink RX3 3 Lib.objectInit ∈ mh_TB := mh_tb1 (mh_t1 (List.mem_of_getElem? (i := 62) rfl)) rfl
theorem wd_63 : Cond.fieldLink RX3 9 RX3 "bytes" "[I" ∈ mh_TB := mh_tb1 (mh_t1 (List.mem_of_getElem? (i := 63) rfl)) rfl
theorem wd_64 : Cond.fieldLink RX3 15 RX3 "size" "I" ∈ mh_TB := mh_tb1 (mh_t1 (List.mem_of_getElem? (i := 64) rfl)) rfl
theorem wd_65 : Cond.fieldLinkNest RX5 90 RX3 "size" "I" RX5 ∈ mh_NW := mh_nw1 (mh_t1 (List.mem_of_getElem? (i := 65) rfl)) rfl
theorem wd_66 : Cond.fieldLink RX3 28 RX3 "behind" "I" ∈ mh_TB := mh_tb1 (mh_t1 (List.mem_of_getElem? (i := 66) rfl)) rfl
theorem wd_67 : Cond.fieldLink RX3 37 RX3 "start" "I" ∈ mh_TB := mh_tb1 (mh_t1 (List.mem_of_getElem? (i := 67) rfl)) rfl
theorem wd_68 : Cond.fieldLink RX3 34 RX3 "token" "I" ∈ mh_TB := mh_tb1 (mh_t1 (List.mem_of_getElem? (i := 68) rfl)) rfl
theorem wd_69 : Cond.fieldLink RX3 61 RX3 "value" "I" ∈ mh_TB := mh_tb1 (mh_t1 (List.mem_of_getElem? (i := 69) rfl)) rfl
theorem wd_70 : Cond.fieldLink RX3 19 RX3 "into" "LStitchLetFall$Text;" ∈ mh_TB := mh_tb1 (mh_t1 (List.mem_of_getElem? (i := 70) rfl)) rfl
theorem wd_86 : Cond.classLink RX5 26 RX4 ∈ mh_TB := mh_tb1 (mh_t1 (List.mem_of_getElem? (i := 86) rfl)) rfl
theorem wd_88 : Cond.classLink RX5 32 RX0 ∈ mh_TB := mh_tb1 (mh_t1 (List.mem_of_getElem? (i := 88) rfl)) rfl
theorem wd_89 : Cond.instantiable RX0 3 ∈ mh_TB := mh_tb1 (mh_t1 (List.mem_of_getElem? (i := 89) rfl)) rfl
theorem wd_90 : Cond.methodLinkNest RX5 34 yX0_init RX5 ∈ mh_NW := mh_nw1 (mh_t1 (List.mem_of_getElem? (i := 90) rfl)) rfl
theorem wd_91 : Cond.instanceMethod yX0_init ∈ mh_TB := mh_tb1 (mh_t1 (List.mem_of_getElem? (i := 91) rfl)) rfl
theorem wd_92 : Cond.code yX0_init cX0_init 1 none ∈ mh_TB := mh_tb1 (mh_t1 (List.mem_of_getElem? (i := 92) rfl)) rfl
theorem wd_93 : Cond.methodLink RX0 3 Lib.objectInit ∈ mh_TB := mh_tb1 (mh_t1 (List.mem_of_getElem? (i := 93) rfl)) rfl
theorem wd_94 : Cond.fieldLink RX0 9 RX0 "rests" "[I" ∈ mh_TB := mh_tb1 (mh_t1 (List.mem_of_getElem? (i := 94) rfl)) rfl
theorem wd_95 : Cond.fieldLinkNest RX5 179 RX0 "rests" "[I" RX5 ∈ mh_NW := mh_nw1 (mh_t1 (List.mem_of_getElem? (i := 95) rfl)) rfl
theorem wd_96 : Cond.fieldLink RX0 15 RX0 "gone" "J" ∈ mh_TB := mh_tb1 (mh_t1 (List.mem_of_getElem? (i := 96) rfl)) rfl
theorem wd_97 : Cond.fieldLinkNest RX5 167 RX0 "gone" "J" RX5 ∈ mh_NW := mh_nw1 (mh_t1 (List.mem_of_getElem? (i := 97) rfl)) rfl
theorem wd_98 : Cond.fieldLink RX0 19 RX0 "stops" "J" ∈ mh_TB := mh_tb1 (mh_t1 (List.mem_of_getElem? (i := 98) rfl)) rfl
theorem wd_99 : Cond.fieldLinkNest RX5 176 RX0 "stops" "J" RX5 ∈ mh_NW := mh_nw1 (mh_t1 (List.mem_of_getElem? (i := 99) rfl)) rfl
theorem wd_107 : Cond.classLink RX5 39 RX2 ∈ mh_TB := mh_tb1 (mh_t1 (List.mem_of_getElem? (i := 107) rfl)) rfl
theorem wd_109 : Cond.instantiable RX4 5 ∈ mh_TB := mh_tb1 (mh_t1 (List.mem_of_getElem? (i := 109) rfl)) rfl
theorem wd_110 : Cond.methodLinkNest RX5 49 yX4_init RX5 ∈ mh_NW := mh_nw1 (mh_t1 (List.mem_of_getElem? (i := 110) rfl)) rfl
theorem wd_111 : Cond.instanceMethod yX4_init ∈ mh_TB := mh_tb1 (mh_t1 (List.mem_of_getElem? (i := 111) rfl)) rfl
theorem wd_112 : Cond.code yX4_init cX4_init 1 none ∈ mh_TB := mh_tb1 (mh_t1 (List.mem_of_getElem? (i := 112) rfl)) rfl
theorem wd_113 : Cond.methodLink RX4 3 Lib.objectInit ∈ mh_TB := mh_tb1 (mh_t1 (List.mem_of_getElem? (i := 113) rfl)) rfl
theorem wd_114 : Cond.fieldLink RX4 9 RX4 "steps" "[I" ∈ mh_TB := mh_tb1 (mh_t1 (List.mem_of_getElem? (i := 114) rfl)) rfl
theorem wd_115 : Cond.fieldLink RX4 21 RX4 "size" "I" ∈ mh_TB := mh_tb1 (mh_t1 (List.mem_of_getElem? (i := 115) rfl)) rfl
theorem wd_116 : Cond.fieldLink RX4 15 RX4 "ends" "[I" ∈ mh_TB := mh_tb1 (mh_t1 (List.mem_of_getElem? (i := 116) rfl)) rfl
theorem wd_117 : Cond.fieldLink RX4 18 RX4 "stack" "[I" ∈ mh_TB := mh_tb1 (mh_t1 (List.mem_of_getElem? (i := 117) rfl)) rfl
theorem wd_118 : Cond.fieldLink RX4 25 RX4 "top" "I" ∈ mh_TB := mh_tb1 (mh_t1 (List.mem_of_getElem? (i := 118) rfl)) rfl
theorem wd_130 : Cond.arrayClass .long ∈ mh_TB := mh_tb1 (mh_t1 (List.mem_of_getElem? (i := 130) rfl)) rfl
theorem wd_131 : Cond.instantiable RX2 3 ∈ mh_TB := mh_tb1 (mh_t1 (List.mem_of_getElem? (i := 131) rfl)) rfl
theorem wd_132 : Cond.methodLinkNest RX5 50 yX2_init RX5 ∈ mh_NW := mh_nw1 (mh_t1 (List.mem_of_getElem? (i := 132) rfl)) rfl
theorem wd_133 : Cond.instanceMethod yX2_init ∈ mh_TB := mh_tb1 (mh_t1 (List.mem_of_getElem? (i := 133) rfl)) rfl
theorem wd_134 : Cond.code yX2_init cX2_init 1 none ∈ mh_TB := mh_tb1 (mh_t1 (List.mem_of_getElem? (i := 134) rfl)) rfl
theorem wd_135 : Cond.methodLink RX2 3 Lib.objectInit ∈ mh_TB := mh_tb1 (mh_t1 (List.mem_of_getElem? (i := 135) rfl)) rfl
theorem wd_136 : Cond.fieldLink RX2 9 RX2 "numbers" "[I" ∈ mh_TB := mh_tb1 (mh_t1 (List.mem_of_getElem? (i := 136) rfl)) rfl
theorem wd_137 : Cond.fieldLinkNest RX5 202 RX2 "numbers" "[I" RX5 ∈ mh_NW := mh_nw1 (mh_t1 (List.mem_of_getElem? (i := 137) rfl)) rfl
theorem wd_138 : Cond.fieldLink RX2 15 RX2 "sort" "I" ∈ mh_TB := mh_tb1 (mh_t1 (List.mem_of_getElem? (i := 138) rfl)) rfl
theorem wd_139 : Cond.fieldLinkNest RX5 251 RX2 "sort" "I" RX5 ∈ mh_NW := mh_nw1 (mh_t1 (List.mem_of_getElem? (i := 139) rfl)) rfl
theorem wd_140 : Cond.fieldLink RX2 19 RX2 "size" "I" ∈ mh_TB := mh_tb1 (mh_t1 (List.mem_of_getElem? (i := 140) rfl)) rfl
theorem wd_141 : Cond.fieldLinkNest RX5 250 RX2 "size" "I" RX5 ∈ mh_NW := mh_nw1 (mh_t1 (List.mem_of_getElem? (i := 141) rfl)) rfl
theorem wd_150 : Cond.methodLink RX5 53 yJ0_length_8abf5 ∈ mh_TB := mh_tb1 (mh_t1 (List.mem_of_getElem? (i := 150) rfl)) rfl
theorem wd_151 : Cond.instanceMethod yJ0_length_8abf5 ∈ mh_TB := mh_tb1 (mh_t1 (List.mem_of_getElem? (i := 151) rfl)) rfl
theorem wd_152 : Cond.selects RJ0 yJ0_length_8abf5 yJ0_length_8abf5 ∈ mh_TB := mh_tb1 (mh_t1 (List.mem_of_getElem? (i := 152) rfl)) rfl
theorem wd_153 : Cond.code yJ0_length_8abf5 cJ0_length_8abf5 1 (some .int) ∈ mh_TB := mh_tb1 (mh_t1 (List.mem_of_getElem? (i := 153) rfl)) rfl
theorem wd_154 : Cond.methodLink RJ0 335 yJ0_coder_7d493 ∈ mh_TB := mh_tb1 (mh_t1 (List.mem_of_getElem? (i := 154) rfl)) rfl
theorem wd_155 : Cond.instanceMethod yJ0_coder_7d493 ∈ mh_TB := mh_tb1 (mh_t1 (List.mem_of_getElem? (i := 155) rfl)) rfl
theorem wd_156 : Cond.selects RJ0 yJ0_coder_7d493 yJ0_coder_7d493 ∈ mh_TB := mh_tb1 (mh_t1 (List.mem_of_getElem? (i := 156) rfl)) rfl
theorem wd_157 : Cond.code yJ0_coder_7d493 cJ0_coder_7d493 1 (some .byte) ∈ mh_TB := mh_tb1 (mh_t1 (List.mem_of_getElem? (i := 157) rfl)) rfl
theorem wd_158 : Cond.fieldLink RJ0 38 RJ0 "COMPACT_STRINGS" "Z" ∈ mh_TB := mh_tb1 (mh_t1 (List.mem_of_getElem? (i := 158) rfl)) rfl
theorem wd_160 : Cond.methodLink RX5 59 yJ0_charAt_5068e ∈ mh_TB := mh_tb1 (mh_t1 (List.mem_of_getElem? (i := 160) rfl)) rfl
theorem wd_161 : Cond.instanceMethod yJ0_charAt_5068e ∈ mh_TB := mh_tb1 (mh_t1 (List.mem_of_getElem? (i := 161) rfl)) rfl
theorem wd_162 : Cond.selects RJ0 yJ0_charAt_5068e yJ0_charAt_5068e ∈ mh_TB := mh_tb1 (mh_t1 (List.mem_of_getElem? (i := 162) rfl)) rfl
theorem wd_163 : Cond.code yJ0_charAt_5068e cJ0_charAt_5068e 2 (some .char) ∈ mh_TB := mh_tb1 (mh_t1 (List.mem_of_getElem? (i := 163) rfl)) rfl
theorem wd_164 : Cond.methodLink RJ0 492 yJ0_isLatin1_aae02 ∈ mh_TB := mh_tb1 (mh_t1 (List.mem_of_getElem? (i := 164) rfl)) rfl
theorem wd_165 : Cond.instanceMethod yJ0_isLatin1_aae02 ∈ mh_TB := mh_tb1 (mh_t1 (List.mem_of_getElem? (i := 165) rfl)) rfl
theorem wd_166 : Cond.selects RJ0 yJ0_isLatin1_aae02 yJ0_isLatin1_aae02 ∈ mh_TB := mh_tb1 (mh_t1 (List.mem_of_getElem? (i := 166) rfl)) rfl
theorem wd_167 : Cond.code yJ0_isLatin1_aae02 cJ0_isLatin1_aae02 1 (some .boolean) ∈ mh_TB := mh_tb1 (mh_t1 (List.mem_of_getElem? (i := 167) rfl)) rfl
theorem wd_168 : Cond.methodLink RJ0 495 yJ1_charAt_3b067 ∈ mh_TB := mh_tb1 (mh_t1 (List.mem_of_getElem? (i := 168) rfl)) rfl
theorem wd_169 : Cond.static yJ1_charAt_3b067 ∈ mh_TB := mh_tb1 (mh_t1 (List.mem_of_getElem? (i := 169) rfl)) rfl
theorem wd_170 : Cond.code yJ1_charAt_3b067 cJ1_charAt_3b067 2 (some .char) ∈ mh_TB := mh_tb1 (mh_t1 (List.mem_of_getElem? (i := 170) rfl)) rfl
theorem wd_171 : Cond.methodLink RJ1 9 yJ0_checkIndex_df160 ∈ mh_TB := mh_tb1 (mh_t1 (List.mem_of_getElem? (i := 171) rfl)) rfl
theorem wd_172 : Cond.static yJ0_checkIndex_df160 ∈ mh_TB := mh_tb1 (mh_t1 (List.mem_of_getElem? (i := 172) rfl)) rfl
theorem wd_173 : Cond.code yJ0_checkIndex_df160 cJ0_checkIndex_df160 2 none ∈ mh_TB := mh_tb1 (mh_t1 (List.mem_of_getElem? (i := 173) rfl)) rfl
theorem wd_174 : Cond.fieldLink RJ0 1053 RJ3 "SIOOBE_FORMATTER" "Ljava/util/function/BiFunction;" ∈ mh_TB := mh_tb1 (mh_t1 (List.mem_of_getElem? (i := 174) rfl)) rfl
theorem wd_176 : Cond.methodLink RJ0 1059 yJ3_checkIndex_8e157 ∈ mh_TB := mh_tb1 (mh_t1 (List.mem_of_getElem? (i := 176) rfl)) rfl
theorem wd_177 : Cond.static yJ3_checkIndex_8e157 ∈ mh_TB := mh_tb1 (mh_t1 (List.mem_of_getElem? (i := 177) rfl)) rfl
theorem wd_178 : Cond.code yJ3_checkIndex_8e157 cJ3_checkIndex_8e157 3 (some .int) ∈ mh_TB := mh_tb1 (mh_t1 (List.mem_of_getElem? (i := 178) rfl)) rfl
theorem wd_179 : Cond.methodLink RJ0 498 yJ2_charAt_3b067 ∈ mh_TB := mh_tb1 (mh_t1 (List.mem_of_getElem? (i := 179) rfl)) rfl
theorem wd_180 : Cond.static yJ2_charAt_3b067 ∈ mh_TB := mh_tb1 (mh_t1 (List.mem_of_getElem? (i := 180) rfl)) rfl
theorem wd_181 : Cond.code yJ2_charAt_3b067 cJ2_charAt_3b067 2 (some .char) ∈ mh_TB := mh_tb1 (mh_t1 (List.mem_of_getElem? (i := 181) rfl)) rfl
theorem wd_182 : Cond.methodLink RJ2 67 yJ2_checkIndex_2214a ∈ mh_TB := mh_tb1 (mh_t1 (List.mem_of_getElem? (i := 182) rfl)) rfl
theorem wd_183 : Cond.static yJ2_checkIndex_2214a ∈ mh_TB := mh_tb1 (mh_t1 (List.mem_of_getElem? (i := 183) rfl)) rfl
theorem wd_184 : Cond.code yJ2_checkIndex_2214a cJ2_checkIndex_2214a 2 none ∈ mh_TB := mh_tb1 (mh_t1 (List.mem_of_getElem? (i := 184) rfl)) rfl
theorem wd_185 : Cond.methodLink RJ2 48 yJ2_length_9d52b ∈ mh_TB := mh_tb1 (mh_t1 (List.mem_of_getElem? (i := 185) rfl)) rfl
theorem wd_186 : Cond.static yJ2_length_9d52b ∈ mh_TB := mh_tb1 (mh_t1 (List.mem_of_getElem? (i := 186) rfl)) rfl
theorem wd_187 : Cond.code yJ2_length_9d52b cJ2_length_9d52b 1 (some .int) ∈ mh_TB := mh_tb1 (mh_t1 (List.mem_of_getElem? (i := 187) rfl)) rfl
theorem wd_188 : Cond.methodLink RJ2 414 yJ0_checkIndex_df160 ∈ mh_TB := mh_tb1 (mh_t1 (List.mem_of_getElem? (i := 188) rfl)) rfl
theorem wd_189 : Cond.methodLink RJ2 71 yJ2_getChar_3b067 ∈ mh_TB := mh_tb1 (mh_t1 (List.mem_of_getElem? (i := 189) rfl)) rfl
theorem wd_190 : Cond.static yJ2_getChar_3b067 ∈ mh_TB := mh_tb1 (mh_t1 (List.mem_of_getElem? (i := 190) rfl)) rfl
theorem wd_191 : Cond.code yJ2_getChar_3b067 cJ2_getChar_3b067 2 (some .char) ∈ mh_TB := mh_tb1 (mh_t1 (List.mem_of_getElem? (i := 191) rfl)) rfl
theorem wd_192 : Cond.fieldLink RJ2 44 RJ2 "$assertionsDisabled" "Z" ∈ mh_TB := mh_tb1 (mh_t1 (List.mem_of_getElem? (i := 192) rfl)) rfl
theorem wd_194 : Cond.fieldLink RJ2 59 RJ2 "HI_BYTE_SHIFT" "I" ∈ mh_TB := mh_tb1 (mh_t1 (List.mem_of_getElem? (i := 194) rfl)) rfl
theorem wd_196 : Cond.fieldLink RJ2 63 RJ2 "LO_BYTE_SHIFT" "I" ∈ mh_TB := mh_tb1 (mh_t1 (List.mem_of_getElem? (i := 196) rfl)) rfl
theorem wd_198 : Cond.methodLinkNest RX5 63 yX3_add RX5 ∈ mh_NW := mh_nw1 (mh_t1 (List.mem_of_getElem? (i := 198) rfl)) rfl
theorem wd_200 : Cond.instanceMethod yX3_add ∈ mh_TB := mh_tb1 (mh_t1 (List.mem_of_getElem? (i := 200) rfl)) rfl
theorem wd_201 : Cond.code yX3_add cX3_add 2 none ∈ mh_TB := mh_tb1 (mh_t1 (List.mem_of_getElem? (i := 201) rfl)) rfl
theorem wd_202 : Cond.methodLink RX5 67 yX5_readTape ∈ mh_TB := mh_tb1 (mh_t1 (List.mem_of_getElem? (i := 202) rfl)) rfl
theorem wd_204 : Cond.instanceMethod yX5_readTape ∈ mh_TB := mh_tb1 (mh_t1 (List.mem_of_getElem? (i := 204) rfl)) rfl
theorem wd_205 : Cond.code yX5_readTape cX5_readTape 2 (some .int) ∈ mh_TB := mh_tb1 (mh_t1 (List.mem_of_getElem? (i := 205) rfl)) rfl
theorem wd_206 : Cond.methodLinkNest RX5 280 yX3_readInto RX5 ∈ mh_NW := mh_nw1 (mh_t1 (List.mem_of_getElem? (i := 206) rfl)) rfl
theorem wd_208 : Cond.instanceMethod yX3_readInto ∈ mh_TB := mh_tb1 (mh_t1 (List.mem_of_getElem? (i := 208) rfl)) rfl
theorem wd_209 : Cond.code yX3_readInto cX3_readInto 3 (some .int) ∈ mh_TB := mh_tb1 (mh_t1 (List.mem_of_getElem? (i := 209) rfl)) rfl
theorem wd_210 : Cond.methodLinkNest RX3 23 yX4_clear RX5 ∈ mh_NW := mh_nw1 (mh_t1 (List.mem_of_getElem? (i := 210) rfl)) rfl
theorem wd_212 : Cond.instanceMethod yX4_clear ∈ mh_TB := mh_tb1 (mh_t1 (List.mem_of_getElem? (i := 212) rfl)) rfl
theorem wd_213 : Cond.code yX4_clear cX4_clear 1 none ∈ mh_TB := mh_tb1 (mh_t1 (List.mem_of_getElem? (i := 213) rfl)) rfl
theorem wd_214 : Cond.methodLink RX3 31 yX3_advance ∈ mh_TB := mh_tb1 (mh_t1 (List.mem_of_getElem? (i := 214) rfl)) rfl
theorem wd_216 : Cond.instanceMethod yX3_advance ∈ mh_TB := mh_tb1 (mh_t1 (List.mem_of_getElem? (i := 216) rfl)) rfl
theorem wd_217 : Cond.code yX3_advance cX3_advance 2 none ∈ mh_TB := mh_tb1 (mh_t1 (List.mem_of_getElem? (i := 217) rfl)) rfl
theorem wd_218 : Cond.methodLink RX3 71 yX3_isLetter ∈ mh_TB := mh_tb1 (mh_t1 (List.mem_of_getElem? (i := 218) rfl)) rfl
theorem wd_219 : Cond.static yX3_isLetter ∈ mh_TB := mh_tb1 (mh_t1 (List.mem_of_getElem? (i := 219) rfl)) rfl
theorem wd_220 : Cond.code yX3_isLetter cX3_isLetter 1 (some .boolean) ∈ mh_TB := mh_tb1 (mh_t1 (List.mem_of_getElem? (i := 220) rfl)) rfl
theorem wd_221 : Cond.methodLinkNest RX3 64 yX5_within RX5 ∈ mh_NW := mh_nw1 (mh_t1 (List.mem_of_getElem? (i := 221) rfl)) rfl
theorem wd_222 : Cond.static yX5_within ∈ mh_TB := mh_tb1 (mh_t1 (List.mem_of_getElem? (i := 222) rfl)) rfl
theorem wd_223 : Cond.code yX5_within cX5_within 3 (some .boolean) ∈ mh_TB := mh_tb1 (mh_t1 (List.mem_of_getElem? (i := 223) rfl)) rfl
theorem wd_224 : Cond.methodLink RX3 74 yX3_wordToken ∈ mh_TB := mh_tb1 (mh_t1 (List.mem_of_getElem? (i := 224) rfl)) rfl
theorem wd_226 : Cond.instanceMethod yX3_wordToken ∈ mh_TB := mh_tb1 (mh_t1 (List.mem_of_getElem? (i := 226) rfl)) rfl
theorem wd_227 : Cond.code yX3_wordToken cX3_wordToken 4 (some .int) ∈ mh_TB := mh_tb1 (mh_t1 (List.mem_of_getElem? (i := 227) rfl)) rfl
theorem wd_229 : Cond.methodLink RX3 86 yJ0_length_8abf5 ∈ mh_TB := mh_tb1 (mh_t1 (List.mem_of_getElem? (i := 229) rfl)) rfl
theorem wd_230 : Cond.methodLink RX3 92 yJ0_charAt_5068e ∈ mh_TB := mh_tb1 (mh_t1 (List.mem_of_getElem? (i := 230) rfl)) rfl
theorem wd_231 : Cond.methodLink RX3 96 yX3_standsAt ∈ mh_TB := mh_tb1 (mh_t1 (List.mem_of_getElem? (i := 231) rfl)) rfl
theorem wd_233 : Cond.instanceMethod yX3_standsAt ∈ mh_TB := mh_tb1 (mh_t1 (List.mem_of_getElem? (i := 233) rfl)) rfl
theorem wd_234 : Cond.code yX3_standsAt cX3_standsAt 5 (some .boolean) ∈ mh_TB := mh_tb1 (mh_t1 (List.mem_of_getElem? (i := 234) rfl)) rfl
theorem wd_235 : Cond.methodLink RX3 78 yX3_isDigit ∈ mh_TB := mh_tb1 (mh_t1 (List.mem_of_getElem? (i := 235) rfl)) rfl
theorem wd_236 : Cond.static yX3_isDigit ∈ mh_TB := mh_tb1 (mh_t1 (List.mem_of_getElem? (i := 236) rfl)) rfl
theorem wd_237 : Cond.code yX3_isDigit cX3_isDigit 1 (some .boolean) ∈ mh_TB := mh_tb1 (mh_t1 (List.mem_of_getElem? (i := 237) rfl)) rfl
theorem wd_238 : Cond.methodLink RX3 81 yX3_isSign ∈ mh_TB := mh_tb1 (mh_t1 (List.mem_of_getElem? (i := 238) rfl)) rfl
theorem wd_239 : Cond.static yX3_isSign ∈ mh_TB := mh_tb1 (mh_t1 (List.mem_of_getElem? (i := 239) rfl)) rfl
theorem wd_240 : Cond.code yX3_isSign cX3_isSign 1 (some .boolean) ∈ mh_TB := mh_tb1 (mh_t2 (List.mem_of_getElem? (i := 0) rfl)) rfl
theorem wd_241 : Cond.methodLink RX3 40 yX3_chain ∈ mh_TB := mh_tb1 (mh_t2 (List.mem_of_getElem? (i := 1) rfl)) rfl
theorem wd_243 : Cond.instanceMethod yX3_chain ∈ mh_TB := mh_tb1 (mh_t2 (List.mem_of_getElem? (i := 3) rfl)) rfl
theorem wd_244 : Cond.code yX3_chain cX3_chain 6 (some .boolean) ∈ mh_TB := mh_tb1 (mh_t2 (List.mem_of_getElem? (i := 4) rfl)) rfl
theorem wd_245 : Cond.methodLink RX3 48 yX3_one ∈ mh_TB := mh_tb1 (mh_t2 (List.mem_of_getElem? (i := 5) rfl)) rfl
theorem wd_247 : Cond.instanceMethod yX3_one ∈ mh_TB := mh_tb1 (mh_t2 (List.mem_of_getElem? (i := 7) rfl)) rfl
theorem wd_248 : Cond.code yX3_one cX3_one 2 (some .boolean) ∈ mh_TB := mh_tb1 (mh_t2 (List.mem_of_getElem? (i := 8) rfl)) rfl
theorem wd_249 : Cond.methodLinkNest RX3 58 yX4_add RX5 ∈ mh_NW := mh_nw1 (mh_t2 (List.mem_of_getElem? (i := 9) rfl)) rfl
theorem wd_251 : Cond.instanceMethod yX4_add ∈ mh_TB := mh_tb1 (mh_t2 (List.mem_of_getElem? (i := 11) rfl)) rfl
theorem wd_252 : Cond.code yX4_add cX4_add 2 none ∈ mh_TB := mh_tb1 (mh_t2 (List.mem_of_getElem? (i := 12) rfl)) rfl
theorem wd_253 : Cond.methodLink RX3 68 yX3_opened ∈ mh_TB := mh_tb1 (mh_t2 (List.mem_of_getElem? (i := 13) rfl)) rfl
theorem wd_255 : Cond.instanceMethod yX3_opened ∈ mh_TB := mh_tb1 (mh_t2 (List.mem_of_getElem? (i := 15) rfl)) rfl
theorem wd_256 : Cond.code yX3_opened cX3_opened 3 (some .boolean) ∈ mh_TB := mh_tb1 (mh_t2 (List.mem_of_getElem? (i := 16) rfl)) rfl
theorem wd_257 : Cond.methodLink RX3 52 yX3_negation ∈ mh_TB := mh_tb1 (mh_t2 (List.mem_of_getElem? (i := 17) rfl)) rfl
theorem wd_259 : Cond.instanceMethod yX3_negation ∈ mh_TB := mh_tb1 (mh_t2 (List.mem_of_getElem? (i := 19) rfl)) rfl
theorem wd_260 : Cond.code yX3_negation cX3_negation 2 (some .boolean) ∈ mh_TB := mh_tb1 (mh_t2 (List.mem_of_getElem? (i := 20) rfl)) rfl
theorem wd_261 : Cond.methodLink RX3 55 yX3_joins ∈ mh_TB := mh_tb1 (mh_t2 (List.mem_of_getElem? (i := 21) rfl)) rfl
theorem wd_262 : Cond.static yX3_joins ∈ mh_TB := mh_tb1 (mh_t2 (List.mem_of_getElem? (i := 22) rfl)) rfl
theorem wd_263 : Cond.code yX3_joins cX3_joins 2 (some .boolean) ∈ mh_TB := mh_tb1 (mh_t2 (List.mem_of_getElem? (i := 23) rfl)) rfl
theorem wd_264 : Cond.methodLinkNest RX3 44 yX4_endPart RX5 ∈ mh_NW := mh_nw1 (mh_t2 (List.mem_of_getElem? (i := 24) rfl)) rfl
theorem wd_266 : Cond.instanceMethod yX4_endPart ∈ mh_TB := mh_tb1 (mh_t2 (List.mem_of_getElem? (i := 26) rfl)) rfl
theorem wd_267 : Cond.code yX4_endPart cX4_endPart 2 none ∈ mh_TB := mh_tb1 (mh_t2 (List.mem_of_getElem? (i := 27) rfl)) rfl
theorem wd_268 : Cond.fieldLink RX5 10 RX5 "piece" "LStitchLetFall$Piece;" ∈ mh_TB := mh_tb1 (mh_t2 (List.mem_of_getElem? (i := 28) rfl)) rfl
theorem wd_269 : Cond.fieldLink RX5 16 RX5 "kept" "LStitchLetFall$Piece;" ∈ mh_TB := mh_tb1 (mh_t2 (List.mem_of_getElem? (i := 29) rfl)) rfl
theorem wd_270 : Cond.fieldLink RX5 242 RX5 "isKept" "Z" ∈ mh_TB := mh_tb1 (mh_t2 (List.mem_of_getElem? (i := 30) rfl)) rfl
theorem wd_271 : Cond.fieldLink RX5 22 RX5 "tape" "LStitchLetFall$Tape;" ∈ mh_TB := mh_tb1 (mh_t2 (List.mem_of_getElem? (i := 31) rfl)) rfl
theorem wd_272 : Cond.fieldLink RX5 28 RX5 "texts" "[LStitchLetFall$Text;" ∈ mh_TB := mh_tb1 (mh_t2 (List.mem_of_getElem? (i := 32) rfl)) rfl
theorem wd_273 : Cond.fieldLink RX5 83 RX5 "textCount" "I" ∈ mh_TB := mh_tb1 (mh_t2 (List.mem_of_getElem? (i := 33) rfl)) rfl
theorem wd_274 : Cond.fieldLink RX5 35 RX5 "fall" "LStitchLetFall$Fall;" ∈ mh_TB := mh_tb1 (mh_t2 (List.mem_of_getElem? (i := 34) rfl)) rfl
theorem wd_275 : Cond.fieldLink RX5 41 RX5 "sheets" "[LStitchLetFall$Sheet;" ∈ mh_TB := mh_tb1 (mh_t2 (List.mem_of_getElem? (i := 35) rfl)) rfl
theorem wd_276 : Cond.fieldLink RX5 45 RX5 "goneAlone" "[J" ∈ mh_TB := mh_tb1 (mh_t2 (List.mem_of_getElem? (i := 36) rfl)) rfl
theorem wd_296 : Cond.arrayClass .byte ∈ mh_TB := mh_tb1 (mh_t2 (List.mem_of_getElem? (i := 56) rfl)) rfl
theorem wd_297 : Cond.methodLink RL 13 yX5_count ∈ mh_TB := mh_tb1 (mh_t2 (List.mem_of_getElem? (i := 57) rfl)) rfl
theorem wd_298 : Cond.instanceMethod yX5_count ∈ mh_TB := mh_tb1 (mh_t2 (List.mem_of_getElem? (i := 58) rfl)) rfl
theorem wd_299 : Cond.selects RX5 yX5_count yX5_count ∈ mh_TB := mh_tb1 (mh_t2 (List.mem_of_getElem? (i := 59) rfl)) rfl
theorem wd_300 : Cond.code yX5_count cX5_count 2 (some .int) ∈ mh_TB := mh_tb1 (mh_t2 (List.mem_of_getElem? (i := 60) rfl)) rfl
theorem wd_301 : Cond.methodLink RX5 74 yJ13_bitCount_95d88 ∈ mh_TB := mh_tb1 (mh_t2 (List.mem_of_getElem? (i := 61) rfl)) rfl
theorem wd_302 : Cond.static yJ13_bitCount_95d88 ∈ mh_TB := mh_tb1 (mh_t2 (List.mem_of_getElem? (i := 62) rfl)) rfl
theorem wd_303 : Cond.code yJ13_bitCount_95d88 cJ13_bitCount_95d88 2 (some .int) ∈ mh_TB := mh_tb1 (mh_t2 (List.mem_of_getElem? (i := 63) rfl)) rfl
theorem wd_304 : Cond.constantLong RJ13 314 (6148914691236517205) ∈ mh_TB := mh_tb1 (mh_t2 (List.mem_of_getElem? (i := 64) rfl)) rfl
theorem wd_305 : Cond.constantLong RJ13 316 (3689348814741910323) ∈ mh_TB := mh_tb1 (mh_t2 (List.mem_of_getElem? (i := 65) rfl)) rfl
theorem wd_306 : Cond.constantLong RJ13 318 (1085102592571150095) ∈ mh_TB := mh_tb1 (mh_t2 (List.mem_of_getElem? (i := 66) rfl)) rfl
theorem wd_307 : Cond.methodLink RL 18 yX5_feed ∈ mh_TB := mh_tb1 (mh_t2 (List.mem_of_getElem? (i := 67) rfl)) rfl
theorem wd_308 : Cond.instanceMethod yX5_feed ∈ mh_TB := mh_tb1 (mh_t2 (List.mem_of_getElem? (i := 68) rfl)) rfl
theorem wd_309 : Cond.selects RX5 yX5_feed yX5_feed ∈ mh_TB := mh_tb1 (mh_t2 (List.mem_of_getElem? (i := 69) rfl)) rfl
theorem wd_310 : Cond.code yX5_feed cX5_feed 8 (some .int) ∈ mh_TB := mh_tb1 (mh_t2 (List.mem_of_getElem? (i := 70) rfl)) rfl
theorem wd_311 : Cond.methodLink RX5 93 yX5_isByte ∈ mh_TB := mh_tb1 (mh_t2 (List.mem_of_getElem? (i := 71) rfl)) rfl
theorem wd_312 : Cond.static yX5_isByte ∈ mh_TB := mh_tb1 (mh_t2 (List.mem_of_getElem? (i := 72) rfl)) rfl
theorem wd_313 : Cond.code yX5_isByte cX5_isByte 1 (some .boolean) ∈ mh_TB := mh_tb1 (mh_t2 (List.mem_of_getElem? (i := 73) rfl)) rfl
theorem wd_314 : Cond.methodLink RX5 97 yX5_within ∈ mh_TB := mh_tb1 (mh_t2 (List.mem_of_getElem? (i := 74) rfl)) rfl
theorem wd_315 : Cond.methodLink RL 23 yX5_text ∈ mh_TB := mh_tb1 (mh_t2 (List.mem_of_getElem? (i := 75) rfl)) rfl
theorem wd_316 : Cond.instanceMethod yX5_text ∈ mh_TB := mh_tb1 (mh_t2 (List.mem_of_getElem? (i := 76) rfl)) rfl
theorem wd_317 : Cond.selects RX5 yX5_text yX5_text ∈ mh_TB := mh_tb1 (mh_t2 (List.mem_of_getElem? (i := 77) rfl)) rfl
theorem wd_318 : Cond.code yX5_text cX5_text 1 (some .int) ∈ mh_TB := mh_tb1 (mh_t2 (List.mem_of_getElem? (i := 78) rfl)) rfl
theorem wd_319 : Cond.methodLink RL 28 yX5_force ∈ mh_TB := mh_tb1 (mh_t2 (List.mem_of_getElem? (i := 79) rfl)) rfl
theorem wd_320 : Cond.instanceMethod yX5_force ∈ mh_TB := mh_tb1 (mh_t2 (List.mem_of_getElem? (i := 80) rfl)) rfl
theorem wd_321 : Cond.selects RX5 yX5_force yX5_force ∈ mh_TB := mh_tb1 (mh_t2 (List.mem_of_getElem? (i := 81) rfl)) rfl
theorem wd_322 : Cond.code yX5_force cX5_force 3 (some .int) ∈ mh_TB := mh_tb1 (mh_t2 (List.mem_of_getElem? (i := 82) rfl)) rfl
theorem wd_323 : Cond.methodLink RL 32 yX5_asks ∈ mh_TB := mh_tb1 (mh_t2 (List.mem_of_getElem? (i := 83) rfl)) rfl
theorem wd_324 : Cond.instanceMethod yX5_asks ∈ mh_TB := mh_tb1 (mh_t2 (List.mem_of_getElem? (i := 84) rfl)) rfl
theorem wd_325 : Cond.selects RX5 yX5_asks yX5_asks ∈ mh_TB := mh_tb1 (mh_t2 (List.mem_of_getElem? (i := 85) rfl)) rfl
theorem wd_326 : Cond.code yX5_asks cX5_asks 4 (some .int) ∈ mh_TB := mh_tb1 (mh_t2 (List.mem_of_getElem? (i := 86) rfl)) rfl
theorem wd_327 : Cond.methodLink RX5 101 yX5_isLoop ∈ mh_TB := mh_tb1 (mh_t2 (List.mem_of_getElem? (i := 87) rfl)) rfl
theorem wd_328 : Cond.static yX5_isLoop ∈ mh_TB := mh_tb1 (mh_t2 (List.mem_of_getElem? (i := 88) rfl)) rfl
theorem wd_329 : Cond.code yX5_isLoop cX5_isLoop 1 (some .boolean) ∈ mh_TB := mh_tb1 (mh_t2 (List.mem_of_getElem? (i := 89) rfl)) rfl
theorem wd_330 : Cond.methodLink RX5 104 yX5_isPull ∈ mh_TB := mh_tb1 (mh_t2 (List.mem_of_getElem? (i := 90) rfl)) rfl
theorem wd_331 : Cond.static yX5_isPull ∈ mh_TB := mh_tb1 (mh_t2 (List.mem_of_getElem? (i := 91) rfl)) rfl
theorem wd_332 : Cond.code yX5_isPull cX5_isPull 1 (some .boolean) ∈ mh_TB := mh_tb1 (mh_t2 (List.mem_of_getElem? (i := 92) rfl)) rfl
theorem wd_333 : Cond.methodLink RX5 107 yX5_law ∈ mh_TB := mh_tb1 (mh_t2 (List.mem_of_getElem? (i := 93) rfl)) rfl
theorem wd_335 : Cond.instanceMethod yX5_law ∈ mh_TB := mh_tb1 (mh_t2 (List.mem_of_getElem? (i := 95) rfl)) rfl
theorem wd_336 : Cond.code yX5_law cX5_law 1 (some (.object RX4)) ∈ mh_TB := mh_tb1 (mh_t2 (List.mem_of_getElem? (i := 96) rfl)) rfl
theorem wd_337 : Cond.methodLinkNest RX5 110 yX4_says RX5 ∈ mh_NW := mh_nw1 (mh_t2 (List.mem_of_getElem? (i := 97) rfl)) rfl
theorem wd_339 : Cond.instanceMethod yX4_says ∈ mh_TB := mh_tb1 (mh_t2 (List.mem_of_getElem? (i := 99) rfl)) rfl
theorem wd_340 : Cond.code yX4_says cX4_says 8 (some .int) ∈ mh_TB := mh_tb1 (mh_t2 (List.mem_of_getElem? (i := 100) rfl)) rfl
theorem wd_341 : Cond.methodLink RX4 28 yJ9_min_7cf53 ∈ mh_TB := mh_tb1 (mh_t2 (List.mem_of_getElem? (i := 101) rfl)) rfl
theorem wd_342 : Cond.static yJ9_min_7cf53 ∈ mh_TB := mh_tb1 (mh_t2 (List.mem_of_getElem? (i := 102) rfl)) rfl
theorem wd_343 : Cond.code yJ9_min_7cf53 cJ9_min_7cf53 2 (some .int) ∈ mh_TB := mh_tb1 (mh_t2 (List.mem_of_getElem? (i := 103) rfl)) rfl
theorem wd_344 : Cond.methodLink RX4 34 yX4_take ∈ mh_TB := mh_tb1 (mh_t2 (List.mem_of_getElem? (i := 104) rfl)) rfl
theorem wd_346 : Cond.instanceMethod yX4_take ∈ mh_TB := mh_tb1 (mh_t2 (List.mem_of_getElem? (i := 106) rfl)) rfl
theorem wd_347 : Cond.code yX4_take cX4_take 6 none ∈ mh_TB := mh_tb1 (mh_t2 (List.mem_of_getElem? (i := 107) rfl)) rfl
theorem wd_348 : Cond.methodLink RX4 45 yX4_push ∈ mh_TB := mh_tb1 (mh_t2 (List.mem_of_getElem? (i := 108) rfl)) rfl
theorem wd_350 : Cond.instanceMethod yX4_push ∈ mh_TB := mh_tb1 (mh_t2 (List.mem_of_getElem? (i := 110) rfl)) rfl
theorem wd_351 : Cond.code yX4_push cX4_push 2 none ∈ mh_TB := mh_tb1 (mh_t2 (List.mem_of_getElem? (i := 111) rfl)) rfl
theorem wd_352 : Cond.methodLinkNest RX4 57 yX5_faceOf RX5 ∈ mh_NW := mh_nw1 (mh_t2 (List.mem_of_getElem? (i := 112) rfl)) rfl
theorem wd_353 : Cond.static yX5_faceOf ∈ mh_TB := mh_tb1 (mh_t2 (List.mem_of_getElem? (i := 113) rfl)) rfl
theorem wd_354 : Cond.code yX5_faceOf cX5_faceOf 1 (some .int) ∈ mh_TB := mh_tb1 (mh_t2 (List.mem_of_getElem? (i := 114) rfl)) rfl
theorem wd_355 : Cond.methodLinkNest RX4 65 yX5_hasBit RX5 ∈ mh_NW := mh_nw1 (mh_t2 (List.mem_of_getElem? (i := 115) rfl)) rfl
theorem wd_356 : Cond.static yX5_hasBit ∈ mh_TB := mh_tb1 (mh_t2 (List.mem_of_getElem? (i := 116) rfl)) rfl
theorem wd_357 : Cond.code yX5_hasBit cX5_hasBit 3 (some .boolean) ∈ mh_TB := mh_tb1 (mh_t2 (List.mem_of_getElem? (i := 117) rfl)) rfl
theorem wd_358 : Cond.methodLink RX4 38 yX4_pop ∈ mh_TB := mh_tb1 (mh_t2 (List.mem_of_getElem? (i := 118) rfl)) rfl
theorem wd_360 : Cond.instanceMethod yX4_pop ∈ mh_TB := mh_tb1 (mh_t2 (List.mem_of_getElem? (i := 120) rfl)) rfl
theorem wd_361 : Cond.code yX4_pop cX4_pop 1 (some .int) ∈ mh_TB := mh_tb1 (mh_t2 (List.mem_of_getElem? (i := 121) rfl)) rfl
theorem wd_362 : Cond.methodLink RX4 69 yX4_joined ∈ mh_TB := mh_tb1 (mh_t2 (List.mem_of_getElem? (i := 122) rfl)) rfl
theorem wd_363 : Cond.static yX4_joined ∈ mh_TB := mh_tb1 (mh_t2 (List.mem_of_getElem? (i := 123) rfl)) rfl
theorem wd_364 : Cond.code yX4_joined cX4_joined 3 (some .int) ∈ mh_TB := mh_tb1 (mh_t2 (List.mem_of_getElem? (i := 124) rfl)) rfl
theorem wd_365 : Cond.methodLinkNest RX4 42 yX5_bounded RX5 ∈ mh_NW := mh_nw1 (mh_t2 (List.mem_of_getElem? (i := 125) rfl)) rfl
theorem wd_366 : Cond.static yX5_bounded ∈ mh_TB := mh_tb1 (mh_t2 (List.mem_of_getElem? (i := 126) rfl)) rfl
theorem wd_367 : Cond.code yX5_bounded cX5_bounded 2 (some .int) ∈ mh_TB := mh_tb1 (mh_t2 (List.mem_of_getElem? (i := 127) rfl)) rfl
theorem wd_368 : Cond.methodLink RX5 272 yJ9_min_7cf53 ∈ mh_TB := mh_tb1 (mh_t2 (List.mem_of_getElem? (i := 128) rfl)) rfl
theorem wd_369 : Cond.methodLink RX5 277 yJ9_max_7cf53 ∈ mh_TB := mh_tb1 (mh_t2 (List.mem_of_getElem? (i := 129) rfl)) rfl
theorem wd_370 : Cond.static yJ9_max_7cf53 ∈ mh_TB := mh_tb1 (mh_t2 (List.mem_of_getElem? (i := 130) rfl)) rfl
theorem wd_371 : Cond.code yJ9_max_7cf53 cJ9_max_7cf53 2 (some .int) ∈ mh_TB := mh_tb1 (mh_t2 (List.mem_of_getElem? (i := 131) rfl)) rfl
theorem wd_372 : Cond.methodLink RL 37 yX5_knit ∈ mh_TB := mh_tb1 (mh_t2 (List.mem_of_getElem? (i := 132) rfl)) rfl
theorem wd_373 : Cond.instanceMethod yX5_knit ∈ mh_TB := mh_tb1 (mh_t2 (List.mem_of_getElem? (i := 133) rfl)) rfl
theorem wd_374 : Cond.selects RX5 yX5_knit yX5_knit ∈ mh_TB := mh_tb1 (mh_t2 (List.mem_of_getElem? (i := 134) rfl)) rfl
theorem wd_375 : Cond.code yX5_knit cX5_knit 5 (some .int) ∈ mh_TB := mh_tb1 (mh_t2 (List.mem_of_getElem? (i := 135) rfl)) rfl
theorem wd_376 : Cond.methodLink RX5 114 yX5_isKnit ∈ mh_TB := mh_tb1 (mh_t2 (List.mem_of_getElem? (i := 136) rfl)) rfl
theorem wd_377 : Cond.static yX5_isKnit ∈ mh_TB := mh_tb1 (mh_t2 (List.mem_of_getElem? (i := 137) rfl)) rfl
theorem wd_378 : Cond.code yX5_isKnit cX5_isKnit 2 (some .boolean) ∈ mh_TB := mh_tb1 (mh_t2 (List.mem_of_getElem? (i := 138) rfl)) rfl
theorem wd_379 : Cond.methodLinkNest RX5 122 yX1_become RX5 ∈ mh_NW := mh_nw1 (mh_t2 (List.mem_of_getElem? (i := 139) rfl)) rfl
theorem wd_381 : Cond.instanceMethod yX1_become ∈ mh_TB := mh_tb1 (mh_t2 (List.mem_of_getElem? (i := 141) rfl)) rfl
theorem wd_382 : Cond.code yX1_become cX1_become 4 none ∈ mh_TB := mh_tb1 (mh_t2 (List.mem_of_getElem? (i := 142) rfl)) rfl
theorem wd_383 : Cond.methodLink RL 41 yX5_row ∈ mh_TB := mh_tb1 (mh_t2 (List.mem_of_getElem? (i := 143) rfl)) rfl
theorem wd_384 : Cond.instanceMethod yX5_row ∈ mh_TB := mh_tb1 (mh_t2 (List.mem_of_getElem? (i := 144) rfl)) rfl
theorem wd_385 : Cond.selects RX5 yX5_row yX5_row ∈ mh_TB := mh_tb1 (mh_t2 (List.mem_of_getElem? (i := 145) rfl)) rfl
theorem wd_386 : Cond.code yX5_row cX5_row 7 (some .int) ∈ mh_TB := mh_tb1 (mh_t2 (List.mem_of_getElem? (i := 146) rfl)) rfl
theorem wd_387 : Cond.methodLink RX5 126 yX5_isRow ∈ mh_TB := mh_tb1 (mh_t2 (List.mem_of_getElem? (i := 147) rfl)) rfl
theorem wd_388 : Cond.static yX5_isRow ∈ mh_TB := mh_tb1 (mh_t2 (List.mem_of_getElem? (i := 148) rfl)) rfl
theorem wd_389 : Cond.code yX5_isRow cX5_isRow 1 (some .boolean) ∈ mh_TB := mh_tb1 (mh_t2 (List.mem_of_getElem? (i := 149) rfl)) rfl
theorem wd_390 : Cond.methodLink RL 45 yX5_told ∈ mh_TB := mh_tb1 (mh_t2 (List.mem_of_getElem? (i := 150) rfl)) rfl
theorem wd_391 : Cond.instanceMethod yX5_told ∈ mh_TB := mh_tb1 (mh_t2 (List.mem_of_getElem? (i := 151) rfl)) rfl
theorem wd_392 : Cond.selects RX5 yX5_told yX5_told ∈ mh_TB := mh_tb1 (mh_t2 (List.mem_of_getElem? (i := 152) rfl)) rfl
theorem wd_393 : Cond.code yX5_told cX5_told 3 (some .int) ∈ mh_TB := mh_tb1 (mh_t2 (List.mem_of_getElem? (i := 153) rfl)) rfl
theorem wd_394 : Cond.methodLinkNest RX5 132 yX1_placesBelow RX5 ∈ mh_NW := mh_nw1 (mh_t2 (List.mem_of_getElem? (i := 154) rfl)) rfl
theorem wd_396 : Cond.instanceMethod yX1_placesBelow ∈ mh_TB := mh_tb1 (mh_t2 (List.mem_of_getElem? (i := 156) rfl)) rfl
theorem wd_397 : Cond.code yX1_placesBelow cX1_placesBelow 4 (some .int) ∈ mh_TB := mh_tb1 (mh_t2 (List.mem_of_getElem? (i := 157) rfl)) rfl
theorem wd_398 : Cond.methodLinkNest RX1 39 yX5_goesThroughOwn RX5 ∈ mh_NW := mh_nw1 (mh_t2 (List.mem_of_getElem? (i := 158) rfl)) rfl
theorem wd_399 : Cond.static yX5_goesThroughOwn ∈ mh_TB := mh_tb1 (mh_t2 (List.mem_of_getElem? (i := 159) rfl)) rfl
theorem wd_400 : Cond.code yX5_goesThroughOwn cX5_goesThroughOwn 1 (some .boolean) ∈ mh_TB := mh_tb1 (mh_t2 (List.mem_of_getElem? (i := 160) rfl)) rfl
theorem wd_401 : Cond.methodLinkNest RX1 43 yX5_goesThroughNext RX5 ∈ mh_NW := mh_nw1 (mh_t2 (List.mem_of_getElem? (i := 161) rfl)) rfl
theorem wd_402 : Cond.static yX5_goesThroughNext ∈ mh_TB := mh_tb1 (mh_t2 (List.mem_of_getElem? (i := 162) rfl)) rfl
theorem wd_403 : Cond.code yX5_goesThroughNext cX5_goesThroughNext 1 (some .boolean) ∈ mh_TB := mh_tb1 (mh_t2 (List.mem_of_getElem? (i := 163) rfl)) rfl
theorem wd_404 : Cond.methodLink RX5 136 yX5_faceOf ∈ mh_TB := mh_tb1 (mh_t2 (List.mem_of_getElem? (i := 164) rfl)) rfl
theorem wd_405 : Cond.methodLink RX5 139 yX5_hasBit ∈ mh_TB := mh_tb1 (mh_t2 (List.mem_of_getElem? (i := 165) rfl)) rfl
theorem wd_406 : Cond.methodLink RL 50 yX5_pin ∈ mh_TB := mh_tb1 (mh_t2 (List.mem_of_getElem? (i := 166) rfl)) rfl
theorem wd_407 : Cond.instanceMethod yX5_pin ∈ mh_TB := mh_tb1 (mh_t2 (List.mem_of_getElem? (i := 167) rfl)) rfl
theorem wd_408 : Cond.selects RX5 yX5_pin yX5_pin ∈ mh_TB := mh_tb1 (mh_t2 (List.mem_of_getElem? (i := 168) rfl)) rfl
theorem wd_409 : Cond.code yX5_pin cX5_pin 4 (some .int) ∈ mh_TB := mh_tb1 (mh_t2 (List.mem_of_getElem? (i := 169) rfl)) rfl
theorem wd_410 : Cond.methodLink RX5 143 yX5_bit ∈ mh_TB := mh_tb1 (mh_t2 (List.mem_of_getElem? (i := 170) rfl)) rfl
theorem wd_411 : Cond.static yX5_bit ∈ mh_TB := mh_tb1 (mh_t2 (List.mem_of_getElem? (i := 171) rfl)) rfl
theorem wd_412 : Cond.code yX5_bit cX5_bit 1 (some .long) ∈ mh_TB := mh_tb1 (mh_t2 (List.mem_of_getElem? (i := 172) rfl)) rfl
theorem wd_413 : Cond.constantLong RX5 147 (-1) ∈ mh_TB := mh_tb1 (mh_t2 (List.mem_of_getElem? (i := 173) rfl)) rfl
theorem wd_414 : Cond.methodLink RL 54 yX5_hangs ∈ mh_TB := mh_tb1 (mh_t2 (List.mem_of_getElem? (i := 174) rfl)) rfl
theorem wd_415 : Cond.instanceMethod yX5_hangs ∈ mh_TB := mh_tb1 (mh_t2 (List.mem_of_getElem? (i := 175) rfl)) rfl
theorem wd_416 : Cond.selects RX5 yX5_hangs yX5_hangs ∈ mh_TB := mh_tb1 (mh_t2 (List.mem_of_getElem? (i := 176) rfl)) rfl
theorem wd_417 : Cond.code yX5_hangs cX5_hangs 3 (some .long) ∈ mh_TB := mh_tb1 (mh_t2 (List.mem_of_getElem? (i := 177) rfl)) rfl
theorem wd_418 : Cond.constantLong RX5 149 (-4611686018427387904) ∈ mh_TB := mh_tb1 (mh_t2 (List.mem_of_getElem? (i := 178) rfl)) rfl
theorem wd_419 : Cond.methodLinkNest RX5 151 yX1_over RX5 ∈ mh_NW := mh_nw1 (mh_t2 (List.mem_of_getElem? (i := 179) rfl)) rfl
theorem wd_421 : Cond.instanceMethod yX1_over ∈ mh_TB := mh_tb1 (mh_t2 (List.mem_of_getElem? (i := 181) rfl)) rfl
theorem wd_422 : Cond.code yX1_over cX1_over 6 (some .long) ∈ mh_TB := mh_tb1 (mh_t2 (List.mem_of_getElem? (i := 182) rfl)) rfl
theorem wd_423 : Cond.methodLinkNest RX1 50 yX5_bit RX5 ∈ mh_NW := mh_nw1 (mh_t2 (List.mem_of_getElem? (i := 183) rfl)) rfl
theorem wd_424 : Cond.methodLink RX5 154 yX5_hangingOn ∈ mh_TB := mh_tb1 (mh_t2 (List.mem_of_getElem? (i := 184) rfl)) rfl
theorem wd_426 : Cond.instanceMethod yX5_hangingOn ∈ mh_TB := mh_tb1 (mh_t2 (List.mem_of_getElem? (i := 186) rfl)) rfl
theorem wd_427 : Cond.code yX5_hangingOn cX5_hangingOn 5 (some .long) ∈ mh_TB := mh_tb1 (mh_t2 (List.mem_of_getElem? (i := 187) rfl)) rfl
theorem wd_428 : Cond.methodLinkNest RX5 287 yX1_under RX5 ∈ mh_NW := mh_nw1 (mh_t2 (List.mem_of_getElem? (i := 188) rfl)) rfl
theorem wd_430 : Cond.instanceMethod yX1_under ∈ mh_TB := mh_tb1 (mh_t2 (List.mem_of_getElem? (i := 190) rfl)) rfl
theorem wd_431 : Cond.code yX1_under cX1_under 4 (some .long) ∈ mh_TB := mh_tb1 (mh_t2 (List.mem_of_getElem? (i := 191) rfl)) rfl
theorem wd_432 : Cond.methodLink RX1 46 yX1_placesBelow ∈ mh_TB := mh_tb1 (mh_t2 (List.mem_of_getElem? (i := 192) rfl)) rfl
theorem wd_433 : Cond.methodLink RX5 157 yX5_bearing ∈ mh_TB := mh_tb1 (mh_t2 (List.mem_of_getElem? (i := 193) rfl)) rfl
theorem wd_435 : Cond.instanceMethod yX5_bearing ∈ mh_TB := mh_tb1 (mh_t2 (List.mem_of_getElem? (i := 195) rfl)) rfl
theorem wd_436 : Cond.code yX5_bearing cX5_bearing 5 (some .long) ∈ mh_TB := mh_tb1 (mh_t2 (List.mem_of_getElem? (i := 196) rfl)) rfl
theorem wd_437 : Cond.methodLink RL 59 yX5_loose ∈ mh_TB := mh_tb1 (mh_t2 (List.mem_of_getElem? (i := 197) rfl)) rfl
theorem wd_438 : Cond.instanceMethod yX5_loose ∈ mh_TB := mh_tb1 (mh_t2 (List.mem_of_getElem? (i := 198) rfl)) rfl
theorem wd_439 : Cond.selects RX5 yX5_loose yX5_loose ∈ mh_TB := mh_tb1 (mh_t2 (List.mem_of_getElem? (i := 199) rfl)) rfl
theorem wd_440 : Cond.code yX5_loose cX5_loose 4 (some .long) ∈ mh_TB := mh_tb1 (mh_t2 (List.mem_of_getElem? (i := 200) rfl)) rfl
theorem wd_441 : Cond.methodLinkNest RX5 160 yX1_keeps RX5 ∈ mh_NW := mh_nw1 (mh_t2 (List.mem_of_getElem? (i := 201) rfl)) rfl
theorem wd_443 : Cond.instanceMethod yX1_keeps ∈ mh_TB := mh_tb1 (mh_t2 (List.mem_of_getElem? (i := 203) rfl)) rfl
theorem wd_444 : Cond.code yX1_keeps cX1_keeps 2 (some .boolean) ∈ mh_TB := mh_tb1 (mh_t2 (List.mem_of_getElem? (i := 204) rfl)) rfl
theorem wd_445 : Cond.methodLinkNest RX1 35 yX5_hasBit RX5 ∈ mh_NW := mh_nw1 (mh_t2 (List.mem_of_getElem? (i := 205) rfl)) rfl
theorem wd_446 : Cond.methodLink RL 64 yX5_back ∈ mh_TB := mh_tb1 (mh_t2 (List.mem_of_getElem? (i := 206) rfl)) rfl
theorem wd_447 : Cond.instanceMethod yX5_back ∈ mh_TB := mh_tb1 (mh_t2 (List.mem_of_getElem? (i := 207) rfl)) rfl
theorem wd_448 : Cond.selects RX5 yX5_back yX5_back ∈ mh_TB := mh_tb1 (mh_t2 (List.mem_of_getElem? (i := 208) rfl)) rfl
theorem wd_449 : Cond.code yX5_back cX5_back 2 (some .int) ∈ mh_TB := mh_tb1 (mh_t2 (List.mem_of_getElem? (i := 209) rfl)) rfl
theorem wd_450 : Cond.methodLink RL 68 yX5_run ∈ mh_TB := mh_tb1 (mh_t2 (List.mem_of_getElem? (i := 210) rfl)) rfl
theorem wd_451 : Cond.instanceMethod yX5_run ∈ mh_TB := mh_tb1 (mh_t2 (List.mem_of_getElem? (i := 211) rfl)) rfl
theorem wd_452 : Cond.selects RX5 yX5_run yX5_run ∈ mh_TB := mh_tb1 (mh_t2 (List.mem_of_getElem? (i := 212) rfl)) rfl
theorem wd_453 : Cond.code yX5_run cX5_run 4 (some .int) ∈ mh_TB := mh_tb1 (mh_t2 (List.mem_of_getElem? (i := 213) rfl)) rfl
theorem wd_454 : Cond.methodLink RX5 163 yX5_drop ∈ mh_TB := mh_tb1 (mh_t2 (List.mem_of_getElem? (i := 214) rfl)) rfl
theorem wd_456 : Cond.instanceMethod yX5_drop ∈ mh_TB := mh_tb1 (mh_t2 (List.mem_of_getElem? (i := 216) rfl)) rfl
theorem wd_457 : Cond.code yX5_drop cX5_drop 3 (some .int) ∈ mh_TB := mh_tb1 (mh_t2 (List.mem_of_getElem? (i := 217) rfl)) rfl
theorem wd_458 : Cond.methodLinkNest RX5 182 yX0_runFrom RX5 ∈ mh_NW := mh_nw1 (mh_t2 (List.mem_of_getElem? (i := 218) rfl)) rfl
theorem wd_460 : Cond.instanceMethod yX0_runFrom ∈ mh_TB := mh_tb1 (mh_t2 (List.mem_of_getElem? (i := 220) rfl)) rfl
theorem wd_461 : Cond.code yX0_runFrom cX0_runFrom 13 (some .int) ∈ mh_TB := mh_tb1 (mh_t2 (List.mem_of_getElem? (i := 221) rfl)) rfl
theorem wd_462 : Cond.methodLinkNest RX0 22 yX1_over RX5 ∈ mh_NW := mh_nw1 (mh_t2 (List.mem_of_getElem? (i := 222) rfl)) rfl
theorem wd_463 : Cond.methodLinkNest RX0 28 yX5_hasBit RX5 ∈ mh_NW := mh_nw1 (mh_t2 (List.mem_of_getElem? (i := 223) rfl)) rfl
theorem wd_464 : Cond.methodLinkNest RX0 32 yX1_keeps RX5 ∈ mh_NW := mh_nw1 (mh_t2 (List.mem_of_getElem? (i := 224) rfl)) rfl
theorem wd_465 : Cond.methodLink RX0 36 yX0_restOf ∈ mh_TB := mh_tb1 (mh_t2 (List.mem_of_getElem? (i := 225) rfl)) rfl
theorem wd_467 : Cond.instanceMethod yX0_restOf ∈ mh_TB := mh_tb1 (mh_t2 (List.mem_of_getElem? (i := 227) rfl)) rfl
theorem wd_468 : Cond.code yX0_restOf cX0_restOf 9 (some .int) ∈ mh_TB := mh_tb1 (mh_t2 (List.mem_of_getElem? (i := 228) rfl)) rfl
theorem wd_469 : Cond.methodLink RX0 49 yJ9_max_7cf53 ∈ mh_TB := mh_tb1 (mh_t2 (List.mem_of_getElem? (i := 229) rfl)) rfl
theorem wd_470 : Cond.methodLinkNest RX0 55 yX4_says RX5 ∈ mh_NW := mh_nw1 (mh_t2 (List.mem_of_getElem? (i := 230) rfl)) rfl
theorem wd_471 : Cond.methodLinkNest RX0 67 yX5_rubOf RX5 ∈ mh_NW := mh_nw1 (mh_t2 (List.mem_of_getElem? (i := 231) rfl)) rfl
theorem wd_472 : Cond.static yX5_rubOf ∈ mh_TB := mh_tb1 (mh_t2 (List.mem_of_getElem? (i := 232) rfl)) rfl
theorem wd_473 : Cond.code yX5_rubOf cX5_rubOf 3 (some .int) ∈ mh_TB := mh_tb1 (mh_t2 (List.mem_of_getElem? (i := 233) rfl)) rfl
theorem wd_474 : Cond.methodLinkNest RX0 71 yX5_bounded RX5 ∈ mh_NW := mh_nw1 (mh_t2 (List.mem_of_getElem? (i := 234) rfl)) rfl
theorem wd_475 : Cond.methodLinkNest RX0 40 yX5_bit RX5 ∈ mh_NW := mh_nw1 (mh_t2 (List.mem_of_getElem? (i := 235) rfl)) rfl
theorem wd_476 : Cond.methodLink RX0 43 yJ13_bitCount_95d88 ∈ mh_TB := mh_tb1 (mh_t2 (List.mem_of_getElem? (i := 236) rfl)) rfl
theorem wd_477 : Cond.methodLink RX5 170 yX5_lowestRow ∈ mh_TB := mh_tb1 (mh_t2 (List.mem_of_getElem? (i := 237) rfl)) rfl
theorem wd_479 : Cond.instanceMethod yX5_lowestRow ∈ mh_TB := mh_tb1 (mh_t2 (List.mem_of_getElem? (i := 239) rfl)) rfl
theorem wd_480 : Cond.code yX5_lowestRow cX5_lowestRow 1 (some .int) ∈ mh_TB := mh_tb1 (mh_t3 (List.mem_of_getElem? (i := 0) rfl)) rfl
theorem wd_481 : Cond.methodLink RX5 284 yJ13_numberOfTrailingZeros_95d88 ∈ mh_TB := mh_tb1 (mh_t3 (List.mem_of_getElem? (i := 1) rfl)) rfl
theorem wd_482 : Cond.static yJ13_numberOfTrailingZeros_95d88 ∈ mh_TB := mh_tb1 (mh_t3 (List.mem_of_getElem? (i := 2) rfl)) rfl
theorem wd_483 : Cond.code yJ13_numberOfTrailingZeros_95d88 cJ13_numberOfTrailingZeros_95d88 3 (some .int) ∈ mh_TB := mh_tb1 (mh_t3 (List.mem_of_getElem? (i := 3) rfl)) rfl
theorem wd_484 : Cond.methodLink RJ13 311 yJ6_numberOfTrailingZeros_0f7a4 ∈ mh_TB := mh_tb1 (mh_t3 (List.mem_of_getElem? (i := 4) rfl)) rfl
theorem wd_485 : Cond.static yJ6_numberOfTrailingZeros_0f7a4 ∈ mh_TB := mh_tb1 (mh_t3 (List.mem_of_getElem? (i := 5) rfl)) rfl
theorem wd_486 : Cond.code yJ6_numberOfTrailingZeros_0f7a4 cJ6_numberOfTrailingZeros_0f7a4 2 (some .int) ∈ mh_TB := mh_tb1 (mh_t3 (List.mem_of_getElem? (i := 6) rfl)) rfl
theorem wd_487 : Cond.constant RJ6 264 (65536) ∈ mh_TB := mh_tb1 (mh_t3 (List.mem_of_getElem? (i := 7) rfl)) rfl
theorem wd_488 : Cond.methodLink RX5 173 yX5_together ∈ mh_TB := mh_tb1 (mh_t3 (List.mem_of_getElem? (i := 8) rfl)) rfl
theorem wd_490 : Cond.instanceMethod yX5_together ∈ mh_TB := mh_tb1 (mh_t3 (List.mem_of_getElem? (i := 10) rfl)) rfl
theorem wd_491 : Cond.code yX5_together cX5_together 4 (some .int) ∈ mh_TB := mh_tb1 (mh_t3 (List.mem_of_getElem? (i := 11) rfl)) rfl
theorem wd_492 : Cond.methodLink RL 72 yX5_goes ∈ mh_TB := mh_tb1 (mh_t3 (List.mem_of_getElem? (i := 12) rfl)) rfl
theorem wd_493 : Cond.instanceMethod yX5_goes ∈ mh_TB := mh_tb1 (mh_t3 (List.mem_of_getElem? (i := 13) rfl)) rfl
theorem wd_494 : Cond.selects RX5 yX5_goes yX5_goes ∈ mh_TB := mh_tb1 (mh_t3 (List.mem_of_getElem? (i := 14) rfl)) rfl
theorem wd_495 : Cond.code yX5_goes cX5_goes 4 (some .long) ∈ mh_TB := mh_tb1 (mh_t3 (List.mem_of_getElem? (i := 15) rfl)) rfl
theorem wd_496 : Cond.methodLink RL 77 yX5_left ∈ mh_TB := mh_tb1 (mh_t3 (List.mem_of_getElem? (i := 16) rfl)) rfl
theorem wd_497 : Cond.instanceMethod yX5_left ∈ mh_TB := mh_tb1 (mh_t3 (List.mem_of_getElem? (i := 17) rfl)) rfl
theorem wd_498 : Cond.selects RX5 yX5_left yX5_left ∈ mh_TB := mh_tb1 (mh_t3 (List.mem_of_getElem? (i := 18) rfl)) rfl
theorem wd_499 : Cond.code yX5_left cX5_left 4 (some .int) ∈ mh_TB := mh_tb1 (mh_t3 (List.mem_of_getElem? (i := 19) rfl)) rfl
theorem wd_500 : Cond.methodLink RL 81 yX5_most ∈ mh_TB := mh_tb1 (mh_t3 (List.mem_of_getElem? (i := 20) rfl)) rfl
theorem wd_501 : Cond.instanceMethod yX5_most ∈ mh_TB := mh_tb1 (mh_t3 (List.mem_of_getElem? (i := 21) rfl)) rfl
theorem wd_502 : Cond.selects RX5 yX5_most yX5_most ∈ mh_TB := mh_tb1 (mh_t3 (List.mem_of_getElem? (i := 22) rfl)) rfl
theorem wd_503 : Cond.code yX5_most cX5_most 7 (some .int) ∈ mh_TB := mh_tb1 (mh_t3 (List.mem_of_getElem? (i := 23) rfl)) rfl
theorem wd_504 : Cond.methodLink RL 85 yX5_column ∈ mh_TB := mh_tb1 (mh_t3 (List.mem_of_getElem? (i := 24) rfl)) rfl
theorem wd_505 : Cond.instanceMethod yX5_column ∈ mh_TB := mh_tb1 (mh_t3 (List.mem_of_getElem? (i := 25) rfl)) rfl
theorem wd_506 : Cond.selects RX5 yX5_column yX5_column ∈ mh_TB := mh_tb1 (mh_t3 (List.mem_of_getElem? (i := 26) rfl)) rfl
theorem wd_507 : Cond.code yX5_column cX5_column 7 (some .int) ∈ mh_TB := mh_tb1 (mh_t3 (List.mem_of_getElem? (i := 27) rfl)) rfl
theorem wd_508 : Cond.methodLink RL 89 yX5_line ∈ mh_TB := mh_tb1 (mh_t3 (List.mem_of_getElem? (i := 28) rfl)) rfl
theorem wd_509 : Cond.instanceMethod yX5_line ∈ mh_TB := mh_tb1 (mh_t3 (List.mem_of_getElem? (i := 29) rfl)) rfl
theorem wd_510 : Cond.selects RX5 yX5_line yX5_line ∈ mh_TB := mh_tb1 (mh_t3 (List.mem_of_getElem? (i := 30) rfl)) rfl
theorem wd_511 : Cond.code yX5_line cX5_line 4 (some .int) ∈ mh_TB := mh_tb1 (mh_t3 (List.mem_of_getElem? (i := 31) rfl)) rfl
theorem wd_512 : Cond.methodLink RL 93 yX5_reach ∈ mh_TB := mh_tb1 (mh_t3 (List.mem_of_getElem? (i := 32) rfl)) rfl
theorem wd_513 : Cond.instanceMethod yX5_reach ∈ mh_TB := mh_tb1 (mh_t3 (List.mem_of_getElem? (i := 33) rfl)) rfl
theorem wd_514 : Cond.selects RX5 yX5_reach yX5_reach ∈ mh_TB := mh_tb1 (mh_t3 (List.mem_of_getElem? (i := 34) rfl)) rfl
theorem wd_515 : Cond.code yX5_reach cX5_reach 4 (some .int) ∈ mh_TB := mh_tb1 (mh_t3 (List.mem_of_getElem? (i := 35) rfl)) rfl
theorem wd_516 : Cond.methodLink RL 97 yX5_two ∈ mh_TB := mh_tb1 (mh_t3 (List.mem_of_getElem? (i := 36) rfl)) rfl
theorem wd_517 : Cond.instanceMethod yX5_two ∈ mh_TB := mh_tb1 (mh_t3 (List.mem_of_getElem? (i := 37) rfl)) rfl
theorem wd_518 : Cond.selects RX5 yX5_two yX5_two ∈ mh_TB := mh_tb1 (mh_t3 (List.mem_of_getElem? (i := 38) rfl)) rfl
theorem wd_519 : Cond.code yX5_two cX5_two 9 (some .int) ∈ mh_TB := mh_tb1 (mh_t3 (List.mem_of_getElem? (i := 39) rfl)) rfl
theorem wd_520 : Cond.methodLink RX5 186 yX5_dropBoth ∈ mh_TB := mh_tb1 (mh_t3 (List.mem_of_getElem? (i := 40) rfl)) rfl
theorem wd_522 : Cond.instanceMethod yX5_dropBoth ∈ mh_TB := mh_tb1 (mh_t3 (List.mem_of_getElem? (i := 42) rfl)) rfl
theorem wd_523 : Cond.code yX5_dropBoth cX5_dropBoth 4 (some .int) ∈ mh_TB := mh_tb1 (mh_t3 (List.mem_of_getElem? (i := 43) rfl)) rfl
theorem wd_524 : Cond.methodLink RL 101 yX5_all ∈ mh_TB := mh_tb1 (mh_t3 (List.mem_of_getElem? (i := 44) rfl)) rfl
theorem wd_525 : Cond.instanceMethod yX5_all ∈ mh_TB := mh_tb1 (mh_t3 (List.mem_of_getElem? (i := 45) rfl)) rfl
theorem wd_526 : Cond.selects RX5 yX5_all yX5_all ∈ mh_TB := mh_tb1 (mh_t3 (List.mem_of_getElem? (i := 46) rfl)) rfl
theorem wd_527 : Cond.code yX5_all cX5_all 5 (some .int) ∈ mh_TB := mh_tb1 (mh_t3 (List.mem_of_getElem? (i := 47) rfl)) rfl
theorem wd_528 : Cond.methodLink RL 105 yX5_counts ∈ mh_TB := mh_tb1 (mh_t3 (List.mem_of_getElem? (i := 48) rfl)) rfl
theorem wd_529 : Cond.instanceMethod yX5_counts ∈ mh_TB := mh_tb1 (mh_t3 (List.mem_of_getElem? (i := 49) rfl)) rfl
theorem wd_530 : Cond.selects RX5 yX5_counts yX5_counts ∈ mh_TB := mh_tb1 (mh_t3 (List.mem_of_getElem? (i := 50) rfl)) rfl
theorem wd_531 : Cond.code yX5_counts cX5_counts 3 (some .int) ∈ mh_TB := mh_tb1 (mh_t3 (List.mem_of_getElem? (i := 51) rfl)) rfl
theorem wd_532 : Cond.methodLink RX5 190 yX5_borneOf ∈ mh_TB := mh_tb1 (mh_t3 (List.mem_of_getElem? (i := 52) rfl)) rfl
theorem wd_534 : Cond.instanceMethod yX5_borneOf ∈ mh_TB := mh_tb1 (mh_t3 (List.mem_of_getElem? (i := 54) rfl)) rfl
theorem wd_535 : Cond.code yX5_borneOf cX5_borneOf 4 (some .int) ∈ mh_TB := mh_tb1 (mh_t3 (List.mem_of_getElem? (i := 55) rfl)) rfl
theorem wd_536 : Cond.methodLink RX5 193 yX5_placesUnder ∈ mh_TB := mh_tb1 (mh_t3 (List.mem_of_getElem? (i := 56) rfl)) rfl
theorem wd_538 : Cond.instanceMethod yX5_placesUnder ∈ mh_TB := mh_tb1 (mh_t3 (List.mem_of_getElem? (i := 58) rfl)) rfl
theorem wd_539 : Cond.code yX5_placesUnder cX5_placesUnder 4 (some .int) ∈ mh_TB := mh_tb1 (mh_t3 (List.mem_of_getElem? (i := 59) rfl)) rfl
theorem wd_540 : Cond.methodLink RX5 290 yJ6_bitCount_0f7a4 ∈ mh_TB := mh_tb1 (mh_t3 (List.mem_of_getElem? (i := 60) rfl)) rfl
theorem wd_541 : Cond.static yJ6_bitCount_0f7a4 ∈ mh_TB := mh_tb1 (mh_t3 (List.mem_of_getElem? (i := 61) rfl)) rfl
theorem wd_542 : Cond.code yJ6_bitCount_0f7a4 cJ6_bitCount_0f7a4 1 (some .int) ∈ mh_TB := mh_tb1 (mh_t3 (List.mem_of_getElem? (i := 62) rfl)) rfl
theorem wd_543 : Cond.constant RJ6 265 (1431655765) ∈ mh_TB := mh_tb1 (mh_t3 (List.mem_of_getElem? (i := 63) rfl)) rfl
theorem wd_544 : Cond.constant RJ6 266 (858993459) ∈ mh_TB := mh_tb1 (mh_t3 (List.mem_of_getElem? (i := 64) rfl)) rfl
theorem wd_545 : Cond.constant RJ6 267 (252645135) ∈ mh_TB := mh_tb1 (mh_t3 (List.mem_of_getElem? (i := 65) rfl)) rfl
theorem wd_546 : Cond.methodLink RX5 196 yX5_unevenOf ∈ mh_TB := mh_tb1 (mh_t3 (List.mem_of_getElem? (i := 66) rfl)) rfl
theorem wd_548 : Cond.instanceMethod yX5_unevenOf ∈ mh_TB := mh_tb1 (mh_t3 (List.mem_of_getElem? (i := 68) rfl)) rfl
theorem wd_549 : Cond.code yX5_unevenOf cX5_unevenOf 4 (some .int) ∈ mh_TB := mh_tb1 (mh_t3 (List.mem_of_getElem? (i := 69) rfl)) rfl
theorem wd_550 : Cond.methodLink RL 109 yX5_slip ∈ mh_TB := mh_tb1 (mh_t3 (List.mem_of_getElem? (i := 70) rfl)) rfl
theorem wd_551 : Cond.instanceMethod yX5_slip ∈ mh_TB := mh_tb1 (mh_t3 (List.mem_of_getElem? (i := 71) rfl)) rfl
theorem wd_552 : Cond.selects RX5 yX5_slip yX5_slip ∈ mh_TB := mh_tb1 (mh_t3 (List.mem_of_getElem? (i := 72) rfl)) rfl
theorem wd_553 : Cond.code yX5_slip cX5_slip 4 (some .int) ∈ mh_TB := mh_tb1 (mh_t3 (List.mem_of_getElem? (i := 73) rfl)) rfl
theorem wd_554 : Cond.methodLink RX5 199 yX5_sheetRefusal ∈ mh_TB := mh_tb1 (mh_t3 (List.mem_of_getElem? (i := 74) rfl)) rfl
theorem wd_556 : Cond.instanceMethod yX5_sheetRefusal ∈ mh_TB := mh_tb1 (mh_t3 (List.mem_of_getElem? (i := 76) rfl)) rfl
theorem wd_557 : Cond.code yX5_sheetRefusal cX5_sheetRefusal 3 (some .int) ∈ mh_TB := mh_tb1 (mh_t3 (List.mem_of_getElem? (i := 77) rfl)) rfl
theorem wd_558 : Cond.methodLink RX5 222 yX5_isSheet ∈ mh_TB := mh_tb1 (mh_t3 (List.mem_of_getElem? (i := 78) rfl)) rfl
theorem wd_559 : Cond.static yX5_isSheet ∈ mh_TB := mh_tb1 (mh_t3 (List.mem_of_getElem? (i := 79) rfl)) rfl
theorem wd_560 : Cond.code yX5_isSheet cX5_isSheet 1 (some .boolean) ∈ mh_TB := mh_tb1 (mh_t3 (List.mem_of_getElem? (i := 80) rfl)) rfl
theorem wd_561 : Cond.methodLinkNest RX5 246 yX2_isMissing RX5 ∈ mh_NW := mh_nw1 (mh_t3 (List.mem_of_getElem? (i := 81) rfl)) rfl
theorem wd_563 : Cond.instanceMethod yX2_isMissing ∈ mh_TB := mh_tb1 (mh_t3 (List.mem_of_getElem? (i := 83) rfl)) rfl
theorem wd_564 : Cond.code yX2_isMissing cX2_isMissing 1 (some .boolean) ∈ mh_TB := mh_tb1 (mh_t3 (List.mem_of_getElem? (i := 84) rfl)) rfl
theorem wd_565 : Cond.methodLink RL 113 yX5_wrong ∈ mh_TB := mh_tb1 (mh_t3 (List.mem_of_getElem? (i := 85) rfl)) rfl
theorem wd_566 : Cond.instanceMethod yX5_wrong ∈ mh_TB := mh_tb1 (mh_t3 (List.mem_of_getElem? (i := 86) rfl)) rfl
theorem wd_567 : Cond.selects RX5 yX5_wrong yX5_wrong ∈ mh_TB := mh_tb1 (mh_t3 (List.mem_of_getElem? (i := 87) rfl)) rfl
theorem wd_568 : Cond.code yX5_wrong cX5_wrong 5 (some .int) ∈ mh_TB := mh_tb1 (mh_t3 (List.mem_of_getElem? (i := 88) rfl)) rfl
theorem wd_569 : Cond.methodLink RX5 205 yX5_loose ∈ mh_TB := mh_tb1 (mh_t3 (List.mem_of_getElem? (i := 89) rfl)) rfl
theorem wd_570 : Cond.methodLink RL 117 yX5_pinned ∈ mh_TB := mh_tb1 (mh_t3 (List.mem_of_getElem? (i := 90) rfl)) rfl
theorem wd_571 : Cond.instanceMethod yX5_pinned ∈ mh_TB := mh_tb1 (mh_t3 (List.mem_of_getElem? (i := 91) rfl)) rfl
theorem wd_572 : Cond.selects RX5 yX5_pinned yX5_pinned ∈ mh_TB := mh_tb1 (mh_t3 (List.mem_of_getElem? (i := 92) rfl)) rfl
theorem wd_573 : Cond.code yX5_pinned cX5_pinned 9 (some .int) ∈ mh_TB := mh_tb1 (mh_t3 (List.mem_of_getElem? (i := 93) rfl)) rfl
theorem wd_574 : Cond.methodLink RX5 209 yX5_dropPinned ∈ mh_TB := mh_tb1 (mh_t3 (List.mem_of_getElem? (i := 94) rfl)) rfl
theorem wd_576 : Cond.instanceMethod yX5_dropPinned ∈ mh_TB := mh_tb1 (mh_t3 (List.mem_of_getElem? (i := 96) rfl)) rfl
theorem wd_577 : Cond.code yX5_dropPinned cX5_dropPinned 5 (some .int) ∈ mh_TB := mh_tb1 (mh_t3 (List.mem_of_getElem? (i := 97) rfl)) rfl
theorem wd_578 : Cond.methodLink RL 122 yX5_mending ∈ mh_TB := mh_tb1 (mh_t3 (List.mem_of_getElem? (i := 98) rfl)) rfl
theorem wd_579 : Cond.instanceMethod yX5_mending ∈ mh_TB := mh_tb1 (mh_t3 (List.mem_of_getElem? (i := 99) rfl)) rfl
theorem wd_580 : Cond.selects RX5 yX5_mending yX5_mending ∈ mh_TB := mh_tb1 (mh_t3 (List.mem_of_getElem? (i := 100) rfl)) rfl
theorem wd_581 : Cond.code yX5_mending cX5_mending 8 (some .int) ∈ mh_TB := mh_tb1 (mh_t3 (List.mem_of_getElem? (i := 101) rfl)) rfl
theorem wd_582 : Cond.methodLink RL 126 yX5_mend ∈ mh_TB := mh_tb1 (mh_t3 (List.mem_of_getElem? (i := 102) rfl)) rfl
theorem wd_583 : Cond.instanceMethod yX5_mend ∈ mh_TB := mh_tb1 (mh_t3 (List.mem_of_getElem? (i := 103) rfl)) rfl
theorem wd_584 : Cond.selects RX5 yX5_mend yX5_mend ∈ mh_TB := mh_tb1 (mh_t3 (List.mem_of_getElem? (i := 104) rfl)) rfl
theorem wd_585 : Cond.code yX5_mend cX5_mend 4 (some .int) ∈ mh_TB := mh_tb1 (mh_t3 (List.mem_of_getElem? (i := 105) rfl)) rfl
theorem wd_586 : Cond.methodLink RL 130 yX5_block ∈ mh_TB := mh_tb1 (mh_t3 (List.mem_of_getElem? (i := 106) rfl)) rfl
theorem wd_587 : Cond.instanceMethod yX5_block ∈ mh_TB := mh_tb1 (mh_t3 (List.mem_of_getElem? (i := 107) rfl)) rfl
theorem wd_588 : Cond.selects RX5 yX5_block yX5_block ∈ mh_TB := mh_tb1 (mh_t3 (List.mem_of_getElem? (i := 108) rfl)) rfl
theorem wd_589 : Cond.code yX5_block cX5_block 2 (some .int) ∈ mh_TB := mh_tb1 (mh_t3 (List.mem_of_getElem? (i := 109) rfl)) rfl
theorem wd_590 : Cond.methodLink RL 134 yX5_seen ∈ mh_TB := mh_tb1 (mh_t3 (List.mem_of_getElem? (i := 110) rfl)) rfl
theorem wd_591 : Cond.instanceMethod yX5_seen ∈ mh_TB := mh_tb1 (mh_t3 (List.mem_of_getElem? (i := 111) rfl)) rfl
theorem wd_592 : Cond.selects RX5 yX5_seen yX5_seen ∈ mh_TB := mh_tb1 (mh_t3 (List.mem_of_getElem? (i := 112) rfl)) rfl
theorem wd_593 : Cond.code yX5_seen cX5_seen 4 (some .long) ∈ mh_TB := mh_tb1 (mh_t3 (List.mem_of_getElem? (i := 113) rfl)) rfl
theorem wd_594 : Cond.methodLink RX5 213 yX5_isUnlikeThoseBeside ∈ mh_TB := mh_tb1 (mh_t3 (List.mem_of_getElem? (i := 114) rfl)) rfl
theorem wd_596 : Cond.instanceMethod yX5_isUnlikeThoseBeside ∈ mh_TB := mh_tb1 (mh_t3 (List.mem_of_getElem? (i := 116) rfl)) rfl
theorem wd_597 : Cond.code yX5_isUnlikeThoseBeside cX5_isUnlikeThoseBeside 4 (some .boolean) ∈ mh_TB := mh_tb1 (mh_t3 (List.mem_of_getElem? (i := 117) rfl)) rfl
theorem wd_598 : Cond.methodLink RL 138 yX5_slack ∈ mh_TB := mh_tb1 (mh_t3 (List.mem_of_getElem? (i := 118) rfl)) rfl
theorem wd_599 : Cond.instanceMethod yX5_slack ∈ mh_TB := mh_tb1 (mh_t3 (List.mem_of_getElem? (i := 119) rfl)) rfl
theorem wd_600 : Cond.selects RX5 yX5_slack yX5_slack ∈ mh_TB := mh_tb1 (mh_t3 (List.mem_of_getElem? (i := 120) rfl)) rfl
theorem wd_601 : Cond.code yX5_slack cX5_slack 9 (some .int) ∈ mh_TB := mh_tb1 (mh_t3 (List.mem_of_getElem? (i := 121) rfl)) rfl
theorem wd_602 : Cond.methodLink RL 142 yX5_judge ∈ mh_TB := mh_tb1 (mh_t3 (List.mem_of_getElem? (i := 122) rfl)) rfl
theorem wd_603 : Cond.instanceMethod yX5_judge ∈ mh_TB := mh_tb1 (mh_t3 (List.mem_of_getElem? (i := 123) rfl)) rfl
theorem wd_604 : Cond.selects RX5 yX5_judge yX5_judge ∈ mh_TB := mh_tb1 (mh_t3 (List.mem_of_getElem? (i := 124) rfl)) rfl
theorem wd_605 : Cond.code yX5_judge cX5_judge 5 (some .int) ∈ mh_TB := mh_tb1 (mh_t3 (List.mem_of_getElem? (i := 125) rfl)) rfl
theorem wd_606 : Cond.methodLink RX5 216 yX5_ragRefusal ∈ mh_TB := mh_tb1 (mh_t3 (List.mem_of_getElem? (i := 126) rfl)) rfl
theorem wd_608 : Cond.instanceMethod yX5_ragRefusal ∈ mh_TB := mh_tb1 (mh_t3 (List.mem_of_getElem? (i := 128) rfl)) rfl
theorem wd_609 : Cond.code yX5_ragRefusal cX5_ragRefusal 4 (some .int) ∈ mh_TB := mh_tb1 (mh_t3 (List.mem_of_getElem? (i := 129) rfl)) rfl
theorem wd_610 : Cond.methodLinkNest RX5 219 yX2_firstUnlike RX5 ∈ mh_NW := mh_nw1 (mh_t3 (List.mem_of_getElem? (i := 130) rfl)) rfl
theorem wd_612 : Cond.instanceMethod yX2_firstUnlike ∈ mh_TB := mh_tb1 (mh_t3 (List.mem_of_getElem? (i := 132) rfl)) rfl
theorem wd_613 : Cond.code yX2_firstUnlike cX2_firstUnlike 4 (some .int) ∈ mh_TB := mh_tb1 (mh_t3 (List.mem_of_getElem? (i := 133) rfl)) rfl
theorem wd_614 : Cond.methodLinkNest RX2 22 yX5_hasBit RX5 ∈ mh_NW := mh_nw1 (mh_t3 (List.mem_of_getElem? (i := 134) rfl)) rfl
theorem wd_615 : Cond.methodLink RL 146 yX5_which ∈ mh_TB := mh_tb1 (mh_t3 (List.mem_of_getElem? (i := 135) rfl)) rfl
theorem wd_616 : Cond.instanceMethod yX5_which ∈ mh_TB := mh_tb1 (mh_t3 (List.mem_of_getElem? (i := 136) rfl)) rfl
theorem wd_617 : Cond.selects RX5 yX5_which yX5_which ∈ mh_TB := mh_tb1 (mh_t3 (List.mem_of_getElem? (i := 137) rfl)) rfl
theorem wd_618 : Cond.code yX5_which cX5_which 6 (some .long) ∈ mh_TB := mh_tb1 (mh_t3 (List.mem_of_getElem? (i := 138) rfl)) rfl
theorem wd_619 : Cond.methodLink RL 150 yX5_span ∈ mh_TB := mh_tb1 (mh_t3 (List.mem_of_getElem? (i := 139) rfl)) rfl
theorem wd_620 : Cond.instanceMethod yX5_span ∈ mh_TB := mh_tb1 (mh_t3 (List.mem_of_getElem? (i := 140) rfl)) rfl
theorem wd_621 : Cond.selects RX5 yX5_span yX5_span ∈ mh_TB := mh_tb1 (mh_t3 (List.mem_of_getElem? (i := 141) rfl)) rfl
theorem wd_622 : Cond.code yX5_span cX5_span 7 (some .int) ∈ mh_TB := mh_tb1 (mh_t3 (List.mem_of_getElem? (i := 142) rfl)) rfl
theorem wd_623 : Cond.methodLink RL 154 yX5_laws ∈ mh_TB := mh_tb1 (mh_t3 (List.mem_of_getElem? (i := 143) rfl)) rfl
theorem wd_624 : Cond.instanceMethod yX5_laws ∈ mh_TB := mh_tb1 (mh_t3 (List.mem_of_getElem? (i := 144) rfl)) rfl
theorem wd_625 : Cond.selects RX5 yX5_laws yX5_laws ∈ mh_TB := mh_tb1 (mh_t3 (List.mem_of_getElem? (i := 145) rfl)) rfl
theorem wd_626 : Cond.code yX5_laws cX5_laws 7 (some .int) ∈ mh_TB := mh_tb1 (mh_t3 (List.mem_of_getElem? (i := 146) rfl)) rfl
theorem wd_627 : Cond.methodLink RL 158 yX5_film ∈ mh_TB := mh_tb1 (mh_t3 (List.mem_of_getElem? (i := 147) rfl)) rfl
theorem wd_628 : Cond.instanceMethod yX5_film ∈ mh_TB := mh_tb1 (mh_t3 (List.mem_of_getElem? (i := 148) rfl)) rfl
theorem wd_629 : Cond.selects RX5 yX5_film yX5_film ∈ mh_TB := mh_tb1 (mh_t3 (List.mem_of_getElem? (i := 149) rfl)) rfl
theorem wd_630 : Cond.code yX5_film cX5_film 5 (some .int) ∈ mh_TB := mh_tb1 (mh_t3 (List.mem_of_getElem? (i := 150) rfl)) rfl
theorem wd_631 : Cond.methodLinkNest RX5 225 yX2_become RX5 ∈ mh_NW := mh_nw1 (mh_t3 (List.mem_of_getElem? (i := 151) rfl)) rfl
theorem wd_633 : Cond.instanceMethod yX2_become ∈ mh_TB := mh_tb1 (mh_t3 (List.mem_of_getElem? (i := 153) rfl)) rfl
theorem wd_634 : Cond.code yX2_become cX2_become 4 none ∈ mh_TB := mh_tb1 (mh_t3 (List.mem_of_getElem? (i := 154) rfl)) rfl
theorem wd_635 : Cond.methodLinkNest RX5 228 yX2_put RX5 ∈ mh_NW := mh_nw1 (mh_t3 (List.mem_of_getElem? (i := 155) rfl)) rfl
theorem wd_637 : Cond.instanceMethod yX2_put ∈ mh_TB := mh_tb1 (mh_t3 (List.mem_of_getElem? (i := 157) rfl)) rfl
theorem wd_638 : Cond.code yX2_put cX2_put 4 none ∈ mh_TB := mh_tb1 (mh_t3 (List.mem_of_getElem? (i := 158) rfl)) rfl
theorem wd_639 : Cond.methodLink RL 162 yX5_slips ∈ mh_TB := mh_tb1 (mh_t3 (List.mem_of_getElem? (i := 159) rfl)) rfl
theorem wd_640 : Cond.instanceMethod yX5_slips ∈ mh_TB := mh_tb1 (mh_t3 (List.mem_of_getElem? (i := 160) rfl)) rfl
theorem wd_641 : Cond.selects RX5 yX5_slips yX5_slips ∈ mh_TB := mh_tb1 (mh_t3 (List.mem_of_getElem? (i := 161) rfl)) rfl
theorem wd_642 : Cond.code yX5_slips cX5_slips 5 (some .int) ∈ mh_TB := mh_tb1 (mh_t3 (List.mem_of_getElem? (i := 162) rfl)) rfl
theorem wd_643 : Cond.constant RX5 231 (99999) ∈ mh_TB := mh_tb1 (mh_t3 (List.mem_of_getElem? (i := 163) rfl)) rfl
theorem wd_644 : Cond.methodLink RX5 232 yX5_missed ∈ mh_TB := mh_tb1 (mh_t3 (List.mem_of_getElem? (i := 164) rfl)) rfl
theorem wd_646 : Cond.instanceMethod yX5_missed ∈ mh_TB := mh_tb1 (mh_t3 (List.mem_of_getElem? (i := 166) rfl)) rfl
theorem wd_647 : Cond.code yX5_missed cX5_missed 7 (some .int) ∈ mh_TB := mh_tb1 (mh_t3 (List.mem_of_getElem? (i := 167) rfl)) rfl
theorem wd_648 : Cond.constantLong RX5 294 (48271) ∈ mh_TB := mh_tb1 (mh_t3 (List.mem_of_getElem? (i := 168) rfl)) rfl
theorem wd_649 : Cond.constantLong RX5 296 (2147483647) ∈ mh_TB := mh_tb1 (mh_t3 (List.mem_of_getElem? (i := 169) rfl)) rfl
theorem wd_650 : Cond.constantLong RX5 298 (100) ∈ mh_TB := mh_tb1 (mh_t3 (List.mem_of_getElem? (i := 170) rfl)) rfl
theorem wd_651 : Cond.methodLink RL 166 yX5_odds ∈ mh_TB := mh_tb1 (mh_t3 (List.mem_of_getElem? (i := 171) rfl)) rfl
theorem wd_652 : Cond.instanceMethod yX5_odds ∈ mh_TB := mh_tb1 (mh_t3 (List.mem_of_getElem? (i := 172) rfl)) rfl
theorem wd_653 : Cond.selects RX5 yX5_odds yX5_odds ∈ mh_TB := mh_tb1 (mh_t3 (List.mem_of_getElem? (i := 173) rfl)) rfl
theorem wd_654 : Cond.code yX5_odds cX5_odds 10 (some .long) ∈ mh_TB := mh_tb1 (mh_t3 (List.mem_of_getElem? (i := 174) rfl)) rfl
theorem wd_655 : Cond.methodLink RX5 235 yX5_commonDivisor ∈ mh_TB := mh_tb1 (mh_t3 (List.mem_of_getElem? (i := 175) rfl)) rfl
theorem wd_656 : Cond.static yX5_commonDivisor ∈ mh_TB := mh_tb1 (mh_t3 (List.mem_of_getElem? (i := 176) rfl)) rfl
theorem wd_657 : Cond.code yX5_commonDivisor cX5_commonDivisor 3 (some .int) ∈ mh_TB := mh_tb1 (mh_t3 (List.mem_of_getElem? (i := 177) rfl)) rfl
theorem wd_658 : Cond.methodLink RL 171 yX5_image ∈ mh_TB := mh_tb1 (mh_t3 (List.mem_of_getElem? (i := 178) rfl)) rfl
theorem wd_659 : Cond.instanceMethod yX5_image ∈ mh_TB := mh_tb1 (mh_t3 (List.mem_of_getElem? (i := 179) rfl)) rfl
theorem wd_660 : Cond.selects RX5 yX5_image yX5_image ∈ mh_TB := mh_tb1 (mh_t3 (List.mem_of_getElem? (i := 180) rfl)) rfl
theorem wd_661 : Cond.code yX5_image cX5_image 1 (some .int) ∈ mh_TB := mh_tb1 (mh_t3 (List.mem_of_getElem? (i := 181) rfl)) rfl
theorem wd_662 : Cond.methodLinkNest RX5 238 yX1_takeFrom RX5 ∈ mh_NW := mh_nw1 (mh_t3 (List.mem_of_getElem? (i := 182) rfl)) rfl
theorem wd_664 : Cond.instanceMethod yX1_takeFrom ∈ mh_TB := mh_tb1 (mh_t3 (List.mem_of_getElem? (i := 184) rfl)) rfl
theorem wd_665 : Cond.code yX1_takeFrom cX1_takeFrom 2 none ∈ mh_TB := mh_tb1 (mh_t3 (List.mem_of_getElem? (i := 185) rfl)) rfl
theorem wd_666 : Cond.methodLink RX1 18 arraycopyName ∈ mh_TB := mh_tb1 (mh_t3 (List.mem_of_getElem? (i := 186) rfl)) rfl
theorem wd_667 : Cond.static arraycopyName ∈ mh_TB := mh_tb1 (mh_t3 (List.mem_of_getElem? (i := 187) rfl)) rfl
theorem wd_668 : Cond.native arraycopyName ∈ mh_TB := mh_tb1 (mh_t3 (List.mem_of_getElem? (i := 188) rfl)) rfl
theorem wd_669 : Cond.methodLink RL 175 yX5_restore ∈ mh_TB := mh_tb1 (mh_t3 (List.mem_of_getElem? (i := 189) rfl)) rfl
theorem wd_670 : Cond.instanceMethod yX5_restore ∈ mh_TB := mh_tb1 (mh_t3 (List.mem_of_getElem? (i := 190) rfl)) rfl
theorem wd_671 : Cond.selects RX5 yX5_restore yX5_restore ∈ mh_TB := mh_tb1 (mh_t3 (List.mem_of_getElem? (i := 191) rfl)) rfl
theorem wd_672 : Cond.code yX5_restore cX5_restore 1 (some .int) ∈ mh_TB := mh_tb1 (mh_t3 (List.mem_of_getElem? (i := 192) rfl)) rfl
theorem wd_673 : Cond.methodLink RL 179 yX5_sheet ∈ mh_TB := mh_tb1 (mh_t3 (List.mem_of_getElem? (i := 193) rfl)) rfl
theorem wd_674 : Cond.instanceMethod yX5_sheet ∈ mh_TB := mh_tb1 (mh_t3 (List.mem_of_getElem? (i := 194) rfl)) rfl
theorem wd_675 : Cond.selects RX5 yX5_sheet yX5_sheet ∈ mh_TB := mh_tb1 (mh_t3 (List.mem_of_getElem? (i := 195) rfl)) rfl
theorem wd_676 : Cond.code yX5_sheet cX5_sheet 4 (some .int) ∈ mh_TB := mh_tb1 (mh_t3 (List.mem_of_getElem? (i := 196) rfl)) rfl
theorem wd_677 : Cond.methodLink RL 183 yX5_cell ∈ mh_TB := mh_tb1 (mh_t3 (List.mem_of_getElem? (i := 197) rfl)) rfl
theorem wd_678 : Cond.instanceMethod yX5_cell ∈ mh_TB := mh_tb1 (mh_t3 (List.mem_of_getElem? (i := 198) rfl)) rfl
theorem wd_679 : Cond.selects RX5 yX5_cell yX5_cell ∈ mh_TB := mh_tb1 (mh_t3 (List.mem_of_getElem? (i := 199) rfl)) rfl
theorem wd_680 : Cond.code yX5_cell cX5_cell 4 (some .int) ∈ mh_TB := mh_tb1 (mh_t3 (List.mem_of_getElem? (i := 200) rfl)) rfl
theorem wd_681 : Cond.methodLink RL 187 yX5_copy ∈ mh_TB := mh_tb1 (mh_t3 (List.mem_of_getElem? (i := 201) rfl)) rfl
theorem wd_682 : Cond.instanceMethod yX5_copy ∈ mh_TB := mh_tb1 (mh_t3 (List.mem_of_getElem? (i := 202) rfl)) rfl
theorem wd_683 : Cond.selects RX5 yX5_copy yX5_copy ∈ mh_TB := mh_tb1 (mh_t3 (List.mem_of_getElem? (i := 203) rfl)) rfl
theorem wd_684 : Cond.code yX5_copy cX5_copy 8 (some .int) ∈ mh_TB := mh_tb1 (mh_t3 (List.mem_of_getElem? (i := 204) rfl)) rfl
theorem wd_685 : Cond.methodLinkNest RX5 254 yX2_hasRoom RX5 ∈ mh_NW := mh_nw1 (mh_t3 (List.mem_of_getElem? (i := 205) rfl)) rfl
theorem wd_687 : Cond.instanceMethod yX2_hasRoom ∈ mh_TB := mh_tb1 (mh_t3 (List.mem_of_getElem? (i := 207) rfl)) rfl
theorem wd_688 : Cond.code yX2_hasRoom cX2_hasRoom 3 (some .boolean) ∈ mh_TB := mh_tb1 (mh_t3 (List.mem_of_getElem? (i := 208) rfl)) rfl
theorem wd_689 : Cond.methodLink RX5 257 arraycopyName ∈ mh_TB := mh_tb1 (mh_t3 (List.mem_of_getElem? (i := 209) rfl)) rfl
theorem wd_690 : Cond.methodLink RL 192 yX5_knits ∈ mh_TB := mh_tb1 (mh_t3 (List.mem_of_getElem? (i := 210) rfl)) rfl
theorem wd_691 : Cond.instanceMethod yX5_knits ∈ mh_TB := mh_tb1 (mh_t3 (List.mem_of_getElem? (i := 211) rfl)) rfl
theorem wd_692 : Cond.selects RX5 yX5_knits yX5_knits ∈ mh_TB := mh_tb1 (mh_t3 (List.mem_of_getElem? (i := 212) rfl)) rfl
theorem wd_693 : Cond.code yX5_knits cX5_knits 9 (some .int) ∈ mh_TB := mh_tb1 (mh_t3 (List.mem_of_getElem? (i := 213) rfl)) rfl
theorem wd_694 : Cond.methodLink RX5 263 yX5_knit ∈ mh_TB := mh_tb1 (mh_t3 (List.mem_of_getElem? (i := 214) rfl)) rfl
theorem wd_695 : Cond.methodLink RL 196 yX5_taken ∈ mh_TB := mh_tb1 (mh_t3 (List.mem_of_getElem? (i := 215) rfl)) rfl
theorem wd_696 : Cond.instanceMethod yX5_taken ∈ mh_TB := mh_tb1 (mh_t3 (List.mem_of_getElem? (i := 216) rfl)) rfl
theorem wd_697 : Cond.selects RX5 yX5_taken yX5_taken ∈ mh_TB := mh_tb1 (mh_t3 (List.mem_of_getElem? (i := 217) rfl)) rfl
theorem wd_698 : Cond.code yX5_taken cX5_taken 4 (some .int) ∈ mh_TB := mh_tb1 (mh_t3 (List.mem_of_getElem? (i := 218) rfl)) rfl
theorem wd_699 : Cond.methodLink RX5 266 yX5_isOne ∈ mh_TB := mh_tb1 (mh_t3 (List.mem_of_getElem? (i := 219) rfl)) rfl
theorem wd_700 : Cond.static yX5_isOne ∈ mh_TB := mh_tb1 (mh_t3 (List.mem_of_getElem? (i := 220) rfl)) rfl
theorem wd_701 : Cond.code yX5_isOne cX5_isOne 2 (some .boolean) ∈ mh_TB := mh_tb1 (mh_t3 (List.mem_of_getElem? (i := 221) rfl)) rfl
theorem wd_702 : Cond.methodLink RX5 269 yX5_pinnedPlaces ∈ mh_TB := mh_tb1 (mh_t3 (List.mem_of_getElem? (i := 222) rfl)) rfl
theorem wd_704 : Cond.instanceMethod yX5_pinnedPlaces ∈ mh_TB := mh_tb1 (mh_t3 (List.mem_of_getElem? (i := 224) rfl)) rfl
theorem wd_705 : Cond.code yX5_pinnedPlaces cX5_pinnedPlaces 4 (some .int) ∈ mh_TB := mh_tb1 (mh_t3 (List.mem_of_getElem? (i := 225) rfl)) rfl
theorem wd_706 : Cond.classLink RL 10 RX6 ∈ mh_TB := mh_tb1 (mh_t3 (List.mem_of_getElem? (i := 226) rfl)) rfl
theorem wd_707 : Cond.instantiable RX6 30 ∈ mh_TB := mh_tb1 (mh_t3 (List.mem_of_getElem? (i := 227) rfl)) rfl
theorem wd_708 : Cond.methodLink RL 12 yX6_init ∈ mh_TB := mh_tb1 (mh_t3 (List.mem_of_getElem? (i := 228) rfl)) rfl
theorem wd_709 : Cond.instanceMethod yX6_init ∈ mh_TB := mh_tb1 (mh_t3 (List.mem_of_getElem? (i := 229) rfl)) rfl
theorem wd_710 : Cond.code yX6_init cX6_init 2 none ∈ mh_TB := mh_tb1 (mh_t3 (List.mem_of_getElem? (i := 230) rfl)) rfl
theorem wd_711 : Cond.methodLink RX6 1 Lib.objectInit ∈ mh_TB := mh_tb1 (mh_t3 (List.mem_of_getElem? (i := 231) rfl)) rfl
theorem wd_712 : Cond.methodLink RX6 65 yX6_text ∈ mh_TB := mh_tb1 (mh_t3 (List.mem_of_getElem? (i := 232) rfl)) rfl
theorem wd_713 : Cond.instanceMethod yX6_text ∈ mh_TB := mh_tb1 (mh_t3 (List.mem_of_getElem? (i := 233) rfl)) rfl
theorem wd_714 : Cond.selects RX6 yX6_text yX6_text ∈ mh_TB := mh_tb1 (mh_t3 (List.mem_of_getElem? (i := 234) rfl)) rfl
theorem wd_715 : Cond.code yX6_text cX6_text 3 (some .int) ∈ mh_TB := mh_tb1 (mh_t3 (List.mem_of_getElem? (i := 235) rfl)) rfl
theorem wd_716 : Cond.methodLink RX6 125 yX6_next ∈ mh_TB := mh_tb1 (mh_t3 (List.mem_of_getElem? (i := 236) rfl)) rfl
theorem wd_718 : Cond.instanceMethod yX6_next ∈ mh_TB := mh_tb1 (mh_t3 (List.mem_of_getElem? (i := 238) rfl)) rfl
theorem wd_719 : Cond.code yX6_next cX6_next 3 none ∈ mh_TB := mh_tb1 (mh_t3 (List.mem_of_getElem? (i := 239) rfl)) rfl
theorem wd_720 : Cond.methodLink RX6 69 yX6_in ∈ mh_TB := mh_tb1 (mh_t4 (List.mem_of_getElem? (i := 0) rfl)) rfl
theorem wd_721 : Cond.static yX6_in ∈ mh_TB := mh_tb1 (mh_t4 (List.mem_of_getElem? (i := 1) rfl)) rfl
theorem wd_722 : Cond.code yX6_in cX6_in 3 (some .boolean) ∈ mh_TB := mh_tb1 (mh_t4 (List.mem_of_getElem? (i := 2) rfl)) rfl
theorem wd_723 : Cond.methodLink RX6 99 yX6_wordFrom ∈ mh_TB := mh_tb1 (mh_t4 (List.mem_of_getElem? (i := 3) rfl)) rfl
theorem wd_725 : Cond.instanceMethod yX6_wordFrom ∈ mh_TB := mh_tb1 (mh_t4 (List.mem_of_getElem? (i := 5) rfl)) rfl
theorem wd_726 : Cond.code yX6_wordFrom cX6_wordFrom 6 (some .int) ∈ mh_TB := mh_tb1 (mh_t4 (List.mem_of_getElem? (i := 6) rfl)) rfl
theorem wd_727 : Cond.methodLink RX6 138 yX6_eRead ∈ mh_TB := mh_tb1 (mh_t4 (List.mem_of_getElem? (i := 7) rfl)) rfl
theorem wd_729 : Cond.instanceMethod yX6_eRead ∈ mh_TB := mh_tb1 (mh_t4 (List.mem_of_getElem? (i := 9) rfl)) rfl
theorem wd_730 : Cond.code yX6_eRead cX6_eRead 4 (some .boolean) ∈ mh_TB := mh_tb1 (mh_t4 (List.mem_of_getElem? (i := 10) rfl)) rfl
theorem wd_731 : Cond.constant RX6 128 (100000) ∈ mh_TB := mh_tb1 (mh_t4 (List.mem_of_getElem? (i := 11) rfl)) rfl
theorem wd_732 : Cond.methodLink RX6 115 yX6_puts ∈ mh_TB := mh_tb1 (mh_t4 (List.mem_of_getElem? (i := 12) rfl)) rfl
theorem wd_734 : Cond.instanceMethod yX6_puts ∈ mh_TB := mh_tb1 (mh_t4 (List.mem_of_getElem? (i := 14) rfl)) rfl
theorem wd_735 : Cond.code yX6_puts cX6_puts 2 none ∈ mh_TB := mh_tb1 (mh_t4 (List.mem_of_getElem? (i := 15) rfl)) rfl
theorem wd_736 : Cond.methodLink RX6 122 yX6_unwinds ∈ mh_TB := mh_tb1 (mh_t4 (List.mem_of_getElem? (i := 16) rfl)) rfl
theorem wd_738 : Cond.instanceMethod yX6_unwinds ∈ mh_TB := mh_tb1 (mh_t4 (List.mem_of_getElem? (i := 18) rfl)) rfl
theorem wd_739 : Cond.code yX6_unwinds cX6_unwinds 3 none ∈ mh_TB := mh_tb1 (mh_t4 (List.mem_of_getElem? (i := 19) rfl)) rfl
theorem wd_740 : Cond.methodLink RX6 109 yX6_rank ∈ mh_TB := mh_tb1 (mh_t4 (List.mem_of_getElem? (i := 20) rfl)) rfl
theorem wd_741 : Cond.static yX6_rank ∈ mh_TB := mh_tb1 (mh_t4 (List.mem_of_getElem? (i := 21) rfl)) rfl
theorem wd_742 : Cond.code yX6_rank cX6_rank 1 (some .int) ∈ mh_TB := mh_tb1 (mh_t4 (List.mem_of_getElem? (i := 22) rfl)) rfl
theorem wd_743 : Cond.methodLink RX6 129 yX6_opensOne ∈ mh_TB := mh_tb1 (mh_t4 (List.mem_of_getElem? (i := 23) rfl)) rfl
theorem wd_745 : Cond.instanceMethod yX6_opensOne ∈ mh_TB := mh_tb1 (mh_t4 (List.mem_of_getElem? (i := 25) rfl)) rfl
theorem wd_746 : Cond.code yX6_opensOne cX6_opensOne 2 (some .boolean) ∈ mh_TB := mh_tb1 (mh_t4 (List.mem_of_getElem? (i := 26) rfl)) rfl
theorem wd_747 : Cond.methodLink RX6 119 yX6_holds ∈ mh_TB := mh_tb1 (mh_t4 (List.mem_of_getElem? (i := 27) rfl)) rfl
theorem wd_749 : Cond.instanceMethod yX6_holds ∈ mh_TB := mh_tb1 (mh_t4 (List.mem_of_getElem? (i := 29) rfl)) rfl
theorem wd_750 : Cond.code yX6_holds cX6_holds 2 none ∈ mh_TB := mh_tb1 (mh_t4 (List.mem_of_getElem? (i := 30) rfl)) rfl
theorem wd_751 : Cond.methodLink RX6 132 yX6_signOf ∈ mh_TB := mh_tb1 (mh_t4 (List.mem_of_getElem? (i := 31) rfl)) rfl
theorem wd_753 : Cond.instanceMethod yX6_signOf ∈ mh_TB := mh_tb1 (mh_t4 (List.mem_of_getElem? (i := 33) rfl)) rfl
theorem wd_754 : Cond.code yX6_signOf cX6_signOf 1 (some .int) ∈ mh_TB := mh_tb1 (mh_t4 (List.mem_of_getElem? (i := 34) rfl)) rfl
theorem wd_755 : Cond.methodLink RX6 135 yX6_between ∈ mh_TB := mh_tb1 (mh_t4 (List.mem_of_getElem? (i := 35) rfl)) rfl
theorem wd_757 : Cond.instanceMethod yX6_between ∈ mh_TB := mh_tb1 (mh_t4 (List.mem_of_getElem? (i := 37) rfl)) rfl
theorem wd_758 : Cond.code yX6_between cX6_between 2 (some .boolean) ∈ mh_TB := mh_tb1 (mh_t4 (List.mem_of_getElem? (i := 38) rfl)) rfl
theorem wd_759 : Cond.fieldLink RX6 7 RX6 "kind" "[I" ∈ mh_TB := mh_tb1 (mh_t4 (List.mem_of_getElem? (i := 39) rfl)) rfl
theorem wd_760 : Cond.fieldLink RX6 13 RX6 "more" "[I" ∈ mh_TB := mh_tb1 (mh_t4 (List.mem_of_getElem? (i := 40) rfl)) rfl
theorem wd_761 : Cond.fieldLink RX6 16 RX6 "pins" "[I" ∈ mh_TB := mh_tb1 (mh_t4 (List.mem_of_getElem? (i := 41) rfl)) rfl
theorem wd_762 : Cond.fieldLink RX6 19 RX6 "mended" "[I" ∈ mh_TB := mh_tb1 (mh_t4 (List.mem_of_getElem? (i := 42) rfl)) rfl
theorem wd_763 : Cond.fieldLink RX6 22 RX6 "tape" "[I" ∈ mh_TB := mh_tb1 (mh_t4 (List.mem_of_getElem? (i := 43) rfl)) rfl
theorem wd_764 : Cond.fieldLink RX6 61 RX6 "taped" "I" ∈ mh_TB := mh_tb1 (mh_t4 (List.mem_of_getElem? (i := 44) rfl)) rfl
theorem wd_765 : Cond.fieldLink RX6 25 RX6 "codes" "[I" ∈ mh_TB := mh_tb1 (mh_t4 (List.mem_of_getElem? (i := 45) rfl)) rfl
theorem wd_766 : Cond.fieldLink RX6 28 RX6 "starts" "[I" ∈ mh_TB := mh_tb1 (mh_t4 (List.mem_of_getElem? (i := 46) rfl)) rfl
theorem wd_767 : Cond.fieldLink RX6 77 RX6 "texts" "I" ∈ mh_TB := mh_tb1 (mh_t4 (List.mem_of_getElem? (i := 47) rfl)) rfl
theorem wd_768 : Cond.fieldLink RX6 80 RX6 "rule" "I" ∈ mh_TB := mh_tb1 (mh_t4 (List.mem_of_getElem? (i := 48) rfl)) rfl
theorem wd_769 : Cond.fieldLink RX6 265 RX6 "hasImage" "Z" ∈ mh_TB := mh_tb1 (mh_t4 (List.mem_of_getElem? (i := 49) rfl)) rfl
theorem wd_770 : Cond.fieldLink RX6 269 RX6 "imageRule" "I" ∈ mh_TB := mh_tb1 (mh_t4 (List.mem_of_getElem? (i := 50) rfl)) rfl
theorem wd_771 : Cond.fieldLink RX6 31 RX6 "imageRows" "[I" ∈ mh_TB := mh_tb1 (mh_t4 (List.mem_of_getElem? (i := 51) rfl)) rfl
theorem wd_772 : Cond.fieldLink RX6 34 RX6 "sheetSort" "[I" ∈ mh_TB := mh_tb1 (mh_t4 (List.mem_of_getElem? (i := 52) rfl)) rfl
theorem wd_773 : Cond.fieldLink RX6 37 RX6 "sheetSize" "[I" ∈ mh_TB := mh_tb1 (mh_t4 (List.mem_of_getElem? (i := 53) rfl)) rfl
theorem wd_774 : Cond.fieldLink RX6 40 RX6 "cells" "[I" ∈ mh_TB := mh_tb1 (mh_t4 (List.mem_of_getElem? (i := 54) rfl)) rfl
theorem wd_775 : Cond.fieldLink RX6 43 RX6 "law" "[I" ∈ mh_TB := mh_tb1 (mh_t4 (List.mem_of_getElem? (i := 55) rfl)) rfl
theorem wd_776 : Cond.fieldLink RX6 87 RX6 "at" "I" ∈ mh_TB := mh_tb1 (mh_t4 (List.mem_of_getElem? (i := 56) rfl)) rfl
theorem wd_777 : Cond.fieldLink RX6 90 RX6 "begun" "I" ∈ mh_TB := mh_tb1 (mh_t4 (List.mem_of_getElem? (i := 57) rfl)) rfl
theorem wd_778 : Cond.fieldLink RX6 93 RX6 "token" "I" ∈ mh_TB := mh_tb1 (mh_t4 (List.mem_of_getElem? (i := 58) rfl)) rfl
theorem wd_779 : Cond.fieldLink RX6 96 RX6 "value" "I" ∈ mh_TB := mh_tb1 (mh_t4 (List.mem_of_getElem? (i := 59) rfl)) rfl
theorem wd_780 : Cond.fieldLink RX6 46 RX6 "words" "[I" ∈ mh_TB := mh_tb1 (mh_t4 (List.mem_of_getElem? (i := 60) rfl)) rfl
theorem wd_781 : Cond.fieldLink RX6 49 RX6 "held" "[I" ∈ mh_TB := mh_tb1 (mh_t4 (List.mem_of_getElem? (i := 61) rfl)) rfl
theorem wd_782 : Cond.fieldLink RX6 106 RX6 "heldMany" "I" ∈ mh_TB := mh_tb1 (mh_t4 (List.mem_of_getElem? (i := 62) rfl)) rfl
theorem wd_783 : Cond.fieldLink RX6 112 RX6 "opens" "I" ∈ mh_TB := mh_tb1 (mh_t4 (List.mem_of_getElem? (i := 63) rfl)) rfl
theorem wd_784 : Cond.fieldLink RX6 103 RX6 "out" "I" ∈ mh_TB := mh_tb1 (mh_t4 (List.mem_of_getElem? (i := 64) rfl)) rfl
theorem wd_785 : Cond.fieldLink RX6 52 RX6 "stack" "[I" ∈ mh_TB := mh_tb1 (mh_t4 (List.mem_of_getElem? (i := 65) rfl)) rfl
theorem wd_786 : Cond.fieldLink RX6 55 RX6 "named" "[I" ∈ mh_TB := mh_tb1 (mh_t4 (List.mem_of_getElem? (i := 66) rfl)) rfl
theorem wd_787 : Cond.fieldLink RX6 58 RX6 "lefts" "[I" ∈ mh_TB := mh_tb1 (mh_t4 (List.mem_of_getElem? (i := 67) rfl)) rfl
theorem wd_788 : Cond.fieldLink RX6 202 RX6 "wentMany" "I" ∈ mh_TB := mh_tb1 (mh_t4 (List.mem_of_getElem? (i := 68) rfl)) rfl
theorem wd_850 : Cond.methodLink RL 17 yX6_count ∈ mh_TB := mh_tb1 (mh_t4 (List.mem_of_getElem? (i := 130) rfl)) rfl
theorem wd_851 : Cond.instanceMethod yX6_count ∈ mh_TB := mh_tb1 (mh_t4 (List.mem_of_getElem? (i := 131) rfl)) rfl
theorem wd_852 : Cond.selects RX6 yX6_count yX6_count ∈ mh_TB := mh_tb1 (mh_t4 (List.mem_of_getElem? (i := 132) rfl)) rfl
theorem wd_853 : Cond.code yX6_count cX6_count 2 (some .int) ∈ mh_TB := mh_tb1 (mh_t4 (List.mem_of_getElem? (i := 133) rfl)) rfl
theorem wd_854 : Cond.methodLink RX6 73 yX6_manyIn ∈ mh_TB := mh_tb1 (mh_t4 (List.mem_of_getElem? (i := 134) rfl)) rfl
theorem wd_856 : Cond.instanceMethod yX6_manyIn ∈ mh_TB := mh_tb1 (mh_t4 (List.mem_of_getElem? (i := 136) rfl)) rfl
theorem wd_857 : Cond.code yX6_manyIn cX6_manyIn 4 (some .int) ∈ mh_TB := mh_tb1 (mh_t4 (List.mem_of_getElem? (i := 137) rfl)) rfl
theorem wd_858 : Cond.methodLink RL 22 yX6_feed ∈ mh_TB := mh_tb1 (mh_t4 (List.mem_of_getElem? (i := 138) rfl)) rfl
theorem wd_859 : Cond.instanceMethod yX6_feed ∈ mh_TB := mh_tb1 (mh_t4 (List.mem_of_getElem? (i := 139) rfl)) rfl
theorem wd_860 : Cond.selects RX6 yX6_feed yX6_feed ∈ mh_TB := mh_tb1 (mh_t4 (List.mem_of_getElem? (i := 140) rfl)) rfl
theorem wd_861 : Cond.code yX6_feed cX6_feed 8 (some .int) ∈ mh_TB := mh_tb1 (mh_t4 (List.mem_of_getElem? (i := 141) rfl)) rfl
theorem wd_862 : Cond.methodLink RX6 83 yX6_isByte ∈ mh_TB := mh_tb1 (mh_t4 (List.mem_of_getElem? (i := 142) rfl)) rfl
theorem wd_863 : Cond.static yX6_isByte ∈ mh_TB := mh_tb1 (mh_t4 (List.mem_of_getElem? (i := 143) rfl)) rfl
theorem wd_864 : Cond.code yX6_isByte cX6_isByte 1 (some .boolean) ∈ mh_TB := mh_tb1 (mh_t4 (List.mem_of_getElem? (i := 144) rfl)) rfl
theorem wd_865 : Cond.methodLink RL 27 yX6_text ∈ mh_TB := mh_tb1 (mh_t4 (List.mem_of_getElem? (i := 145) rfl)) rfl
theorem wd_866 : Cond.methodLink RL 31 yX6_force ∈ mh_TB := mh_tb1 (mh_t4 (List.mem_of_getElem? (i := 146) rfl)) rfl
theorem wd_867 : Cond.instanceMethod yX6_force ∈ mh_TB := mh_tb1 (mh_t4 (List.mem_of_getElem? (i := 147) rfl)) rfl
theorem wd_868 : Cond.selects RX6 yX6_force yX6_force ∈ mh_TB := mh_tb1 (mh_t4 (List.mem_of_getElem? (i := 148) rfl)) rfl
theorem wd_869 : Cond.code yX6_force cX6_force 3 (some .int) ∈ mh_TB := mh_tb1 (mh_t4 (List.mem_of_getElem? (i := 149) rfl)) rfl
theorem wd_870 : Cond.methodLink RL 36 yX6_asks ∈ mh_TB := mh_tb1 (mh_t4 (List.mem_of_getElem? (i := 150) rfl)) rfl
theorem wd_871 : Cond.instanceMethod yX6_asks ∈ mh_TB := mh_tb1 (mh_t4 (List.mem_of_getElem? (i := 151) rfl)) rfl
theorem wd_872 : Cond.selects RX6 yX6_asks yX6_asks ∈ mh_TB := mh_tb1 (mh_t4 (List.mem_of_getElem? (i := 152) rfl)) rfl
theorem wd_873 : Cond.code yX6_asks cX6_asks 4 (some .int) ∈ mh_TB := mh_tb1 (mh_t4 (List.mem_of_getElem? (i := 153) rfl)) rfl
theorem wd_874 : Cond.methodLink RX6 155 yX6_isLoop ∈ mh_TB := mh_tb1 (mh_t4 (List.mem_of_getElem? (i := 154) rfl)) rfl
theorem wd_875 : Cond.static yX6_isLoop ∈ mh_TB := mh_tb1 (mh_t4 (List.mem_of_getElem? (i := 155) rfl)) rfl
theorem wd_876 : Cond.code yX6_isLoop cX6_isLoop 1 (some .boolean) ∈ mh_TB := mh_tb1 (mh_t4 (List.mem_of_getElem? (i := 156) rfl)) rfl
theorem wd_877 : Cond.methodLink RX6 158 yX6_isPull ∈ mh_TB := mh_tb1 (mh_t4 (List.mem_of_getElem? (i := 157) rfl)) rfl
theorem wd_878 : Cond.static yX6_isPull ∈ mh_TB := mh_tb1 (mh_t4 (List.mem_of_getElem? (i := 158) rfl)) rfl
theorem wd_879 : Cond.code yX6_isPull cX6_isPull 1 (some .boolean) ∈ mh_TB := mh_tb1 (mh_t4 (List.mem_of_getElem? (i := 159) rfl)) rfl
theorem wd_880 : Cond.methodLink RX6 161 yX6_asksOf ∈ mh_TB := mh_tb1 (mh_t4 (List.mem_of_getElem? (i := 160) rfl)) rfl
theorem wd_882 : Cond.instanceMethod yX6_asksOf ∈ mh_TB := mh_tb1 (mh_t4 (List.mem_of_getElem? (i := 162) rfl)) rfl
theorem wd_883 : Cond.code yX6_asksOf cX6_asksOf 4 (some .int) ∈ mh_TB := mh_tb1 (mh_t4 (List.mem_of_getElem? (i := 163) rfl)) rfl
theorem wd_884 : Cond.methodLink RX6 146 yX6_faceOf ∈ mh_TB := mh_tb1 (mh_t4 (List.mem_of_getElem? (i := 164) rfl)) rfl
theorem wd_885 : Cond.static yX6_faceOf ∈ mh_TB := mh_tb1 (mh_t4 (List.mem_of_getElem? (i := 165) rfl)) rfl
theorem wd_886 : Cond.code yX6_faceOf cX6_faceOf 1 (some .int) ∈ mh_TB := mh_tb1 (mh_t4 (List.mem_of_getElem? (i := 166) rfl)) rfl
theorem wd_887 : Cond.methodLink RX6 149 yX6_worth ∈ mh_TB := mh_tb1 (mh_t4 (List.mem_of_getElem? (i := 167) rfl)) rfl
theorem wd_889 : Cond.instanceMethod yX6_worth ∈ mh_TB := mh_tb1 (mh_t4 (List.mem_of_getElem? (i := 169) rfl)) rfl
theorem wd_890 : Cond.code yX6_worth cX6_worth 5 (some .int) ∈ mh_TB := mh_tb1 (mh_t4 (List.mem_of_getElem? (i := 170) rfl)) rfl
theorem wd_891 : Cond.methodLink RX6 142 yX6_two ∈ mh_TB := mh_tb1 (mh_t4 (List.mem_of_getElem? (i := 171) rfl)) rfl
theorem wd_892 : Cond.static yX6_two ∈ mh_TB := mh_tb1 (mh_t4 (List.mem_of_getElem? (i := 172) rfl)) rfl
theorem wd_893 : Cond.code yX6_two cX6_two 3 (some .int) ∈ mh_TB := mh_tb1 (mh_t4 (List.mem_of_getElem? (i := 173) rfl)) rfl
theorem wd_894 : Cond.methodLink RX6 152 yX6_within ∈ mh_TB := mh_tb1 (mh_t4 (List.mem_of_getElem? (i := 174) rfl)) rfl
theorem wd_895 : Cond.static yX6_within ∈ mh_TB := mh_tb1 (mh_t4 (List.mem_of_getElem? (i := 175) rfl)) rfl
theorem wd_896 : Cond.code yX6_within cX6_within 3 (some .int) ∈ mh_TB := mh_tb1 (mh_t4 (List.mem_of_getElem? (i := 176) rfl)) rfl
theorem wd_897 : Cond.methodLink RL 40 yX6_knit ∈ mh_TB := mh_tb1 (mh_t4 (List.mem_of_getElem? (i := 177) rfl)) rfl
theorem wd_898 : Cond.instanceMethod yX6_knit ∈ mh_TB := mh_tb1 (mh_t4 (List.mem_of_getElem? (i := 178) rfl)) rfl
theorem wd_899 : Cond.selects RX6 yX6_knit yX6_knit ∈ mh_TB := mh_tb1 (mh_t4 (List.mem_of_getElem? (i := 179) rfl)) rfl
theorem wd_900 : Cond.code yX6_knit cX6_knit 5 (some .int) ∈ mh_TB := mh_tb1 (mh_t4 (List.mem_of_getElem? (i := 180) rfl)) rfl
theorem wd_901 : Cond.methodLink RX6 164 yX6_isKnit ∈ mh_TB := mh_tb1 (mh_t4 (List.mem_of_getElem? (i := 181) rfl)) rfl
theorem wd_902 : Cond.static yX6_isKnit ∈ mh_TB := mh_tb1 (mh_t4 (List.mem_of_getElem? (i := 182) rfl)) rfl
theorem wd_903 : Cond.code yX6_isKnit cX6_isKnit 2 (some .boolean) ∈ mh_TB := mh_tb1 (mh_t4 (List.mem_of_getElem? (i := 183) rfl)) rfl
theorem wd_904 : Cond.methodLink RL 44 yX6_row ∈ mh_TB := mh_tb1 (mh_t4 (List.mem_of_getElem? (i := 184) rfl)) rfl
theorem wd_905 : Cond.instanceMethod yX6_row ∈ mh_TB := mh_tb1 (mh_t4 (List.mem_of_getElem? (i := 185) rfl)) rfl
theorem wd_906 : Cond.selects RX6 yX6_row yX6_row ∈ mh_TB := mh_tb1 (mh_t4 (List.mem_of_getElem? (i := 186) rfl)) rfl
theorem wd_907 : Cond.code yX6_row cX6_row 6 (some .int) ∈ mh_TB := mh_tb1 (mh_t4 (List.mem_of_getElem? (i := 187) rfl)) rfl
theorem wd_908 : Cond.methodLink RX6 168 yX6_knit ∈ mh_TB := mh_tb1 (mh_t4 (List.mem_of_getElem? (i := 188) rfl)) rfl
theorem wd_909 : Cond.methodLink RL 49 yX6_told ∈ mh_TB := mh_tb1 (mh_t4 (List.mem_of_getElem? (i := 189) rfl)) rfl
theorem wd_910 : Cond.instanceMethod yX6_told ∈ mh_TB := mh_tb1 (mh_t4 (List.mem_of_getElem? (i := 190) rfl)) rfl
theorem wd_911 : Cond.selects RX6 yX6_told yX6_told ∈ mh_TB := mh_tb1 (mh_t4 (List.mem_of_getElem? (i := 191) rfl)) rfl
theorem wd_912 : Cond.code yX6_told cX6_told 3 (some .int) ∈ mh_TB := mh_tb1 (mh_t4 (List.mem_of_getElem? (i := 192) rfl)) rfl
theorem wd_913 : Cond.methodLink RX6 171 yX6_through ∈ mh_TB := mh_tb1 (mh_t4 (List.mem_of_getElem? (i := 193) rfl)) rfl
theorem wd_915 : Cond.instanceMethod yX6_through ∈ mh_TB := mh_tb1 (mh_t4 (List.mem_of_getElem? (i := 195) rfl)) rfl
theorem wd_916 : Cond.code yX6_through cX6_through 5 (some .int) ∈ mh_TB := mh_tb1 (mh_t4 (List.mem_of_getElem? (i := 196) rfl)) rfl
theorem wd_917 : Cond.methodLink RL 53 yX6_pin ∈ mh_TB := mh_tb1 (mh_t4 (List.mem_of_getElem? (i := 197) rfl)) rfl
theorem wd_918 : Cond.instanceMethod yX6_pin ∈ mh_TB := mh_tb1 (mh_t4 (List.mem_of_getElem? (i := 198) rfl)) rfl
theorem wd_919 : Cond.selects RX6 yX6_pin yX6_pin ∈ mh_TB := mh_tb1 (mh_t4 (List.mem_of_getElem? (i := 199) rfl)) rfl
theorem wd_920 : Cond.code yX6_pin cX6_pin 4 (some .int) ∈ mh_TB := mh_tb1 (mh_t4 (List.mem_of_getElem? (i := 200) rfl)) rfl
theorem wd_921 : Cond.methodLink RL 58 yX6_hangs ∈ mh_TB := mh_tb1 (mh_t4 (List.mem_of_getElem? (i := 201) rfl)) rfl
theorem wd_922 : Cond.instanceMethod yX6_hangs ∈ mh_TB := mh_tb1 (mh_t4 (List.mem_of_getElem? (i := 202) rfl)) rfl
theorem wd_923 : Cond.selects RX6 yX6_hangs yX6_hangs ∈ mh_TB := mh_tb1 (mh_t4 (List.mem_of_getElem? (i := 203) rfl)) rfl
theorem wd_924 : Cond.code yX6_hangs cX6_hangs 6 (some .long) ∈ mh_TB := mh_tb1 (mh_t4 (List.mem_of_getElem? (i := 204) rfl)) rfl
theorem wd_925 : Cond.constantLong RX6 181 (-4611686018427387904) ∈ mh_TB := mh_tb1 (mh_t4 (List.mem_of_getElem? (i := 205) rfl)) rfl
theorem wd_926 : Cond.methodLink RX6 183 yX6_hanging ∈ mh_TB := mh_tb1 (mh_t4 (List.mem_of_getElem? (i := 206) rfl)) rfl
theorem wd_928 : Cond.instanceMethod yX6_hanging ∈ mh_TB := mh_tb1 (mh_t4 (List.mem_of_getElem? (i := 208) rfl)) rfl
theorem wd_929 : Cond.code yX6_hanging cX6_hanging 5 (some .long) ∈ mh_TB := mh_tb1 (mh_t4 (List.mem_of_getElem? (i := 209) rfl)) rfl
theorem wd_930 : Cond.methodLink RX6 177 yX6_uppers ∈ mh_TB := mh_tb1 (mh_t4 (List.mem_of_getElem? (i := 210) rfl)) rfl
theorem wd_932 : Cond.instanceMethod yX6_uppers ∈ mh_TB := mh_tb1 (mh_t4 (List.mem_of_getElem? (i := 212) rfl)) rfl
theorem wd_933 : Cond.code yX6_uppers cX6_uppers 5 (some .long) ∈ mh_TB := mh_tb1 (mh_t4 (List.mem_of_getElem? (i := 213) rfl)) rfl
theorem wd_934 : Cond.methodLink RX6 174 yX6_goesThrough ∈ mh_TB := mh_tb1 (mh_t4 (List.mem_of_getElem? (i := 214) rfl)) rfl
theorem wd_936 : Cond.instanceMethod yX6_goesThrough ∈ mh_TB := mh_tb1 (mh_t4 (List.mem_of_getElem? (i := 216) rfl)) rfl
theorem wd_937 : Cond.code yX6_goesThrough cX6_goesThrough 3 (some .boolean) ∈ mh_TB := mh_tb1 (mh_t4 (List.mem_of_getElem? (i := 217) rfl)) rfl
theorem wd_938 : Cond.methodLink RL 63 yX6_loose ∈ mh_TB := mh_tb1 (mh_t4 (List.mem_of_getElem? (i := 218) rfl)) rfl
theorem wd_939 : Cond.instanceMethod yX6_loose ∈ mh_TB := mh_tb1 (mh_t4 (List.mem_of_getElem? (i := 219) rfl)) rfl
theorem wd_940 : Cond.selects RX6 yX6_loose yX6_loose ∈ mh_TB := mh_tb1 (mh_t4 (List.mem_of_getElem? (i := 220) rfl)) rfl
theorem wd_941 : Cond.code yX6_loose cX6_loose 4 (some .long) ∈ mh_TB := mh_tb1 (mh_t4 (List.mem_of_getElem? (i := 221) rfl)) rfl
theorem wd_942 : Cond.methodLink RX6 189 yX6_isLoose ∈ mh_TB := mh_tb1 (mh_t4 (List.mem_of_getElem? (i := 222) rfl)) rfl
theorem wd_944 : Cond.instanceMethod yX6_isLoose ∈ mh_TB := mh_tb1 (mh_t4 (List.mem_of_getElem? (i := 224) rfl)) rfl
theorem wd_945 : Cond.code yX6_isLoose cX6_isLoose 2 (some .boolean) ∈ mh_TB := mh_tb1 (mh_t4 (List.mem_of_getElem? (i := 225) rfl)) rfl
theorem wd_946 : Cond.methodLink RX6 186 yX6_keeps ∈ mh_TB := mh_tb1 (mh_t4 (List.mem_of_getElem? (i := 226) rfl)) rfl
theorem wd_948 : Cond.instanceMethod yX6_keeps ∈ mh_TB := mh_tb1 (mh_t4 (List.mem_of_getElem? (i := 228) rfl)) rfl
theorem wd_949 : Cond.code yX6_keeps cX6_keeps 2 (some .boolean) ∈ mh_TB := mh_tb1 (mh_t4 (List.mem_of_getElem? (i := 229) rfl)) rfl
theorem wd_950 : Cond.methodLink RL 67 yX6_back ∈ mh_TB := mh_tb1 (mh_t4 (List.mem_of_getElem? (i := 230) rfl)) rfl
theorem wd_951 : Cond.instanceMethod yX6_back ∈ mh_TB := mh_tb1 (mh_t4 (List.mem_of_getElem? (i := 231) rfl)) rfl
theorem wd_952 : Cond.selects RX6 yX6_back yX6_back ∈ mh_TB := mh_tb1 (mh_t4 (List.mem_of_getElem? (i := 232) rfl)) rfl
theorem wd_953 : Cond.code yX6_back cX6_back 2 (some .int) ∈ mh_TB := mh_tb1 (mh_t4 (List.mem_of_getElem? (i := 233) rfl)) rfl
theorem wd_954 : Cond.methodLink RX6 192 yX6_bitsOf ∈ mh_TB := mh_tb1 (mh_t4 (List.mem_of_getElem? (i := 234) rfl)) rfl
theorem wd_955 : Cond.static yX6_bitsOf ∈ mh_TB := mh_tb1 (mh_t4 (List.mem_of_getElem? (i := 235) rfl)) rfl
theorem wd_956 : Cond.code yX6_bitsOf cX6_bitsOf 4 (some .int) ∈ mh_TB := mh_tb1 (mh_t4 (List.mem_of_getElem? (i := 236) rfl)) rfl
theorem wd_957 : Cond.methodLink RL 71 yX6_run ∈ mh_TB := mh_tb1 (mh_t4 (List.mem_of_getElem? (i := 237) rfl)) rfl
theorem wd_958 : Cond.instanceMethod yX6_run ∈ mh_TB := mh_tb1 (mh_t4 (List.mem_of_getElem? (i := 238) rfl)) rfl
theorem wd_959 : Cond.selects RX6 yX6_run yX6_run ∈ mh_TB := mh_tb1 (mh_t4 (List.mem_of_getElem? (i := 239) rfl)) rfl
theorem wd_960 : Cond.code yX6_run cX6_run 4 (some .int) ∈ mh_TB := mh_tb1 (mh_t5 (List.mem_of_getElem? (i := 0) rfl)) rfl
theorem wd_961 : Cond.methodLink RX6 213 yX6_runsFrom ∈ mh_TB := mh_tb1 (mh_t5 (List.mem_of_getElem? (i := 1) rfl)) rfl
theorem wd_963 : Cond.instanceMethod yX6_runsFrom ∈ mh_TB := mh_tb1 (mh_t5 (List.mem_of_getElem? (i := 3) rfl)) rfl
theorem wd_964 : Cond.code yX6_runsFrom cX6_runsFrom 3 none ∈ mh_TB := mh_tb1 (mh_t5 (List.mem_of_getElem? (i := 4) rfl)) rfl
theorem wd_965 : Cond.methodLink RX6 209 yX6_runs ∈ mh_TB := mh_tb1 (mh_t5 (List.mem_of_getElem? (i := 5) rfl)) rfl
theorem wd_967 : Cond.instanceMethod yX6_runs ∈ mh_TB := mh_tb1 (mh_t5 (List.mem_of_getElem? (i := 7) rfl)) rfl
theorem wd_968 : Cond.code yX6_runs cX6_runs 6 none ∈ mh_TB := mh_tb1 (mh_t5 (List.mem_of_getElem? (i := 8) rfl)) rfl
theorem wd_969 : Cond.methodLink RX6 205 yX6_leftOf ∈ mh_TB := mh_tb1 (mh_t5 (List.mem_of_getElem? (i := 9) rfl)) rfl
theorem wd_971 : Cond.instanceMethod yX6_leftOf ∈ mh_TB := mh_tb1 (mh_t5 (List.mem_of_getElem? (i := 11) rfl)) rfl
theorem wd_972 : Cond.code yX6_leftOf cX6_leftOf 6 (some .int) ∈ mh_TB := mh_tb1 (mh_t5 (List.mem_of_getElem? (i := 12) rfl)) rfl
theorem wd_973 : Cond.methodLink RX6 196 yX6_allGone ∈ mh_TB := mh_tb1 (mh_t5 (List.mem_of_getElem? (i := 13) rfl)) rfl
theorem wd_975 : Cond.instanceMethod yX6_allGone ∈ mh_TB := mh_tb1 (mh_t5 (List.mem_of_getElem? (i := 15) rfl)) rfl
theorem wd_976 : Cond.code yX6_allGone cX6_allGone 4 (some .int) ∈ mh_TB := mh_tb1 (mh_t5 (List.mem_of_getElem? (i := 16) rfl)) rfl
theorem wd_977 : Cond.methodLink RX6 199 yX6_rubs ∈ mh_TB := mh_tb1 (mh_t5 (List.mem_of_getElem? (i := 17) rfl)) rfl
theorem wd_979 : Cond.instanceMethod yX6_rubs ∈ mh_TB := mh_tb1 (mh_t5 (List.mem_of_getElem? (i := 19) rfl)) rfl
theorem wd_980 : Cond.code yX6_rubs cX6_rubs 5 (some .int) ∈ mh_TB := mh_tb1 (mh_t5 (List.mem_of_getElem? (i := 20) rfl)) rfl
theorem wd_981 : Cond.methodLink RX6 217 yX6_lowest ∈ mh_TB := mh_tb1 (mh_t5 (List.mem_of_getElem? (i := 21) rfl)) rfl
theorem wd_983 : Cond.instanceMethod yX6_lowest ∈ mh_TB := mh_tb1 (mh_t5 (List.mem_of_getElem? (i := 23) rfl)) rfl
theorem wd_984 : Cond.code yX6_lowest cX6_lowest 2 (some .int) ∈ mh_TB := mh_tb1 (mh_t5 (List.mem_of_getElem? (i := 24) rfl)) rfl
theorem wd_985 : Cond.methodLink RX6 220 yX6_sumOf ∈ mh_TB := mh_tb1 (mh_t5 (List.mem_of_getElem? (i := 25) rfl)) rfl
theorem wd_987 : Cond.instanceMethod yX6_sumOf ∈ mh_TB := mh_tb1 (mh_t5 (List.mem_of_getElem? (i := 27) rfl)) rfl
theorem wd_988 : Cond.code yX6_sumOf cX6_sumOf 4 (some .int) ∈ mh_TB := mh_tb1 (mh_t5 (List.mem_of_getElem? (i := 28) rfl)) rfl
theorem wd_989 : Cond.methodLink RL 76 yX6_goes ∈ mh_TB := mh_tb1 (mh_t5 (List.mem_of_getElem? (i := 29) rfl)) rfl
theorem wd_990 : Cond.instanceMethod yX6_goes ∈ mh_TB := mh_tb1 (mh_t5 (List.mem_of_getElem? (i := 30) rfl)) rfl
theorem wd_991 : Cond.selects RX6 yX6_goes yX6_goes ∈ mh_TB := mh_tb1 (mh_t5 (List.mem_of_getElem? (i := 31) rfl)) rfl
theorem wd_992 : Cond.code yX6_goes cX6_goes 8 (some .long) ∈ mh_TB := mh_tb1 (mh_t5 (List.mem_of_getElem? (i := 32) rfl)) rfl
theorem wd_993 : Cond.methodLink RL 80 yX6_left ∈ mh_TB := mh_tb1 (mh_t5 (List.mem_of_getElem? (i := 33) rfl)) rfl
theorem wd_994 : Cond.instanceMethod yX6_left ∈ mh_TB := mh_tb1 (mh_t5 (List.mem_of_getElem? (i := 34) rfl)) rfl
theorem wd_995 : Cond.selects RX6 yX6_left yX6_left ∈ mh_TB := mh_tb1 (mh_t5 (List.mem_of_getElem? (i := 35) rfl)) rfl
theorem wd_996 : Cond.code yX6_left cX6_left 4 (some .int) ∈ mh_TB := mh_tb1 (mh_t5 (List.mem_of_getElem? (i := 36) rfl)) rfl
theorem wd_997 : Cond.methodLink RL 84 yX6_most ∈ mh_TB := mh_tb1 (mh_t5 (List.mem_of_getElem? (i := 37) rfl)) rfl
theorem wd_998 : Cond.instanceMethod yX6_most ∈ mh_TB := mh_tb1 (mh_t5 (List.mem_of_getElem? (i := 38) rfl)) rfl
theorem wd_999 : Cond.selects RX6 yX6_most yX6_most ∈ mh_TB := mh_tb1 (mh_t5 (List.mem_of_getElem? (i := 39) rfl)) rfl
theorem wd_1000 : Cond.code yX6_most cX6_most 6 (some .int) ∈ mh_TB := mh_tb1 (mh_t5 (List.mem_of_getElem? (i := 40) rfl)) rfl
theorem wd_1001 : Cond.methodLink RL 88 yX6_column ∈ mh_TB := mh_tb1 (mh_t5 (List.mem_of_getElem? (i := 41) rfl)) rfl
theorem wd_1002 : Cond.instanceMethod yX6_column ∈ mh_TB := mh_tb1 (mh_t5 (List.mem_of_getElem? (i := 42) rfl)) rfl
theorem wd_1003 : Cond.selects RX6 yX6_column yX6_column ∈ mh_TB := mh_tb1 (mh_t5 (List.mem_of_getElem? (i := 43) rfl)) rfl
theorem wd_1004 : Cond.code yX6_column cX6_column 8 (some .int) ∈ mh_TB := mh_tb1 (mh_t5 (List.mem_of_getElem? (i := 44) rfl)) rfl
theorem wd_1005 : Cond.methodLink RL 92 yX6_line ∈ mh_TB := mh_tb1 (mh_t5 (List.mem_of_getElem? (i := 45) rfl)) rfl
theorem wd_1006 : Cond.instanceMethod yX6_line ∈ mh_TB := mh_tb1 (mh_t5 (List.mem_of_getElem? (i := 46) rfl)) rfl
theorem wd_1007 : Cond.selects RX6 yX6_line yX6_line ∈ mh_TB := mh_tb1 (mh_t5 (List.mem_of_getElem? (i := 47) rfl)) rfl
theorem wd_1008 : Cond.code yX6_line cX6_line 4 (some .int) ∈ mh_TB := mh_tb1 (mh_t5 (List.mem_of_getElem? (i := 48) rfl)) rfl
theorem wd_1009 : Cond.methodLink RL 96 yX6_reach ∈ mh_TB := mh_tb1 (mh_t5 (List.mem_of_getElem? (i := 49) rfl)) rfl
theorem wd_1010 : Cond.instanceMethod yX6_reach ∈ mh_TB := mh_tb1 (mh_t5 (List.mem_of_getElem? (i := 50) rfl)) rfl
theorem wd_1011 : Cond.selects RX6 yX6_reach yX6_reach ∈ mh_TB := mh_tb1 (mh_t5 (List.mem_of_getElem? (i := 51) rfl)) rfl
theorem wd_1012 : Cond.code yX6_reach cX6_reach 4 (some .int) ∈ mh_TB := mh_tb1 (mh_t5 (List.mem_of_getElem? (i := 52) rfl)) rfl
theorem wd_1013 : Cond.methodLink RL 100 yX6_two_ ∈ mh_TB := mh_tb1 (mh_t5 (List.mem_of_getElem? (i := 53) rfl)) rfl
theorem wd_1014 : Cond.instanceMethod yX6_two_ ∈ mh_TB := mh_tb1 (mh_t5 (List.mem_of_getElem? (i := 54) rfl)) rfl
theorem wd_1015 : Cond.selects RX6 yX6_two_ yX6_two_ ∈ mh_TB := mh_tb1 (mh_t5 (List.mem_of_getElem? (i := 55) rfl)) rfl
theorem wd_1016 : Cond.code yX6_two_ cX6_two_ 7 (some .int) ∈ mh_TB := mh_tb1 (mh_t5 (List.mem_of_getElem? (i := 56) rfl)) rfl
theorem wd_1017 : Cond.methodLink RX6 227 yX6_alone ∈ mh_TB := mh_tb1 (mh_t5 (List.mem_of_getElem? (i := 57) rfl)) rfl
theorem wd_1019 : Cond.instanceMethod yX6_alone ∈ mh_TB := mh_tb1 (mh_t5 (List.mem_of_getElem? (i := 59) rfl)) rfl
theorem wd_1020 : Cond.code yX6_alone cX6_alone 6 (some .int) ∈ mh_TB := mh_tb1 (mh_t5 (List.mem_of_getElem? (i := 60) rfl)) rfl
theorem wd_1021 : Cond.methodLink RX6 223 yX6_went ∈ mh_TB := mh_tb1 (mh_t5 (List.mem_of_getElem? (i := 61) rfl)) rfl
theorem wd_1023 : Cond.instanceMethod yX6_went ∈ mh_TB := mh_tb1 (mh_t5 (List.mem_of_getElem? (i := 63) rfl)) rfl
theorem wd_1024 : Cond.code yX6_went cX6_went 4 (some .long) ∈ mh_TB := mh_tb1 (mh_t5 (List.mem_of_getElem? (i := 64) rfl)) rfl
theorem wd_1025 : Cond.methodLink RL 104 yX6_all ∈ mh_TB := mh_tb1 (mh_t5 (List.mem_of_getElem? (i := 65) rfl)) rfl
theorem wd_1026 : Cond.instanceMethod yX6_all ∈ mh_TB := mh_tb1 (mh_t5 (List.mem_of_getElem? (i := 66) rfl)) rfl
theorem wd_1027 : Cond.selects RX6 yX6_all yX6_all ∈ mh_TB := mh_tb1 (mh_t5 (List.mem_of_getElem? (i := 67) rfl)) rfl
theorem wd_1028 : Cond.code yX6_all cX6_all 6 (some .int) ∈ mh_TB := mh_tb1 (mh_t5 (List.mem_of_getElem? (i := 68) rfl)) rfl
theorem wd_1029 : Cond.methodLink RL 108 yX6_counts ∈ mh_TB := mh_tb1 (mh_t5 (List.mem_of_getElem? (i := 69) rfl)) rfl
theorem wd_1030 : Cond.instanceMethod yX6_counts ∈ mh_TB := mh_tb1 (mh_t5 (List.mem_of_getElem? (i := 70) rfl)) rfl
theorem wd_1031 : Cond.selects RX6 yX6_counts yX6_counts ∈ mh_TB := mh_tb1 (mh_t5 (List.mem_of_getElem? (i := 71) rfl)) rfl
theorem wd_1032 : Cond.code yX6_counts cX6_counts 3 (some .int) ∈ mh_TB := mh_tb1 (mh_t5 (List.mem_of_getElem? (i := 72) rfl)) rfl
theorem wd_1033 : Cond.methodLink RX6 230 yX6_countIn ∈ mh_TB := mh_tb1 (mh_t5 (List.mem_of_getElem? (i := 73) rfl)) rfl
theorem wd_1035 : Cond.instanceMethod yX6_countIn ∈ mh_TB := mh_tb1 (mh_t5 (List.mem_of_getElem? (i := 75) rfl)) rfl
theorem wd_1036 : Cond.code yX6_countIn cX6_countIn 7 (some .int) ∈ mh_TB := mh_tb1 (mh_t5 (List.mem_of_getElem? (i := 76) rfl)) rfl
theorem wd_1037 : Cond.methodLink RL 112 yX6_slip ∈ mh_TB := mh_tb1 (mh_t5 (List.mem_of_getElem? (i := 77) rfl)) rfl
theorem wd_1038 : Cond.instanceMethod yX6_slip ∈ mh_TB := mh_tb1 (mh_t5 (List.mem_of_getElem? (i := 78) rfl)) rfl
theorem wd_1039 : Cond.selects RX6 yX6_slip yX6_slip ∈ mh_TB := mh_tb1 (mh_t5 (List.mem_of_getElem? (i := 79) rfl)) rfl
theorem wd_1040 : Cond.code yX6_slip cX6_slip 4 (some .int) ∈ mh_TB := mh_tb1 (mh_t5 (List.mem_of_getElem? (i := 80) rfl)) rfl
theorem wd_1041 : Cond.methodLink RX6 233 yX6_sheetWrong ∈ mh_TB := mh_tb1 (mh_t5 (List.mem_of_getElem? (i := 81) rfl)) rfl
theorem wd_1043 : Cond.instanceMethod yX6_sheetWrong ∈ mh_TB := mh_tb1 (mh_t5 (List.mem_of_getElem? (i := 83) rfl)) rfl
theorem wd_1044 : Cond.code yX6_sheetWrong cX6_sheetWrong 3 (some .int) ∈ mh_TB := mh_tb1 (mh_t5 (List.mem_of_getElem? (i := 84) rfl)) rfl
theorem wd_1045 : Cond.methodLink RL 116 yX6_wrong ∈ mh_TB := mh_tb1 (mh_t5 (List.mem_of_getElem? (i := 85) rfl)) rfl
theorem wd_1046 : Cond.instanceMethod yX6_wrong ∈ mh_TB := mh_tb1 (mh_t5 (List.mem_of_getElem? (i := 86) rfl)) rfl
theorem wd_1047 : Cond.selects RX6 yX6_wrong yX6_wrong ∈ mh_TB := mh_tb1 (mh_t5 (List.mem_of_getElem? (i := 87) rfl)) rfl
theorem wd_1048 : Cond.code yX6_wrong cX6_wrong 3 (some .int) ∈ mh_TB := mh_tb1 (mh_t5 (List.mem_of_getElem? (i := 88) rfl)) rfl
theorem wd_1049 : Cond.methodLink RL 121 yX6_pinned ∈ mh_TB := mh_tb1 (mh_t5 (List.mem_of_getElem? (i := 89) rfl)) rfl
theorem wd_1050 : Cond.instanceMethod yX6_pinned ∈ mh_TB := mh_tb1 (mh_t5 (List.mem_of_getElem? (i := 90) rfl)) rfl
theorem wd_1051 : Cond.selects RX6 yX6_pinned yX6_pinned ∈ mh_TB := mh_tb1 (mh_t5 (List.mem_of_getElem? (i := 91) rfl)) rfl
theorem wd_1052 : Cond.code yX6_pinned cX6_pinned 7 (some .int) ∈ mh_TB := mh_tb1 (mh_t5 (List.mem_of_getElem? (i := 92) rfl)) rfl
theorem wd_1053 : Cond.methodLink RX6 236 yX6_isHeld ∈ mh_TB := mh_tb1 (mh_t5 (List.mem_of_getElem? (i := 93) rfl)) rfl
theorem wd_1055 : Cond.instanceMethod yX6_isHeld ∈ mh_TB := mh_tb1 (mh_t5 (List.mem_of_getElem? (i := 95) rfl)) rfl
theorem wd_1056 : Cond.code yX6_isHeld cX6_isHeld 4 (some .boolean) ∈ mh_TB := mh_tb1 (mh_t5 (List.mem_of_getElem? (i := 96) rfl)) rfl
theorem wd_1057 : Cond.methodLink RX6 239 yX6_pinsFor ∈ mh_TB := mh_tb1 (mh_t5 (List.mem_of_getElem? (i := 97) rfl)) rfl
theorem wd_1059 : Cond.instanceMethod yX6_pinsFor ∈ mh_TB := mh_tb1 (mh_t5 (List.mem_of_getElem? (i := 99) rfl)) rfl
theorem wd_1060 : Cond.code yX6_pinsFor cX6_pinsFor 10 (some .int) ∈ mh_TB := mh_tb1 (mh_t5 (List.mem_of_getElem? (i := 100) rfl)) rfl
theorem wd_1061 : Cond.methodLink RL 125 yX6_mending ∈ mh_TB := mh_tb1 (mh_t5 (List.mem_of_getElem? (i := 101) rfl)) rfl
theorem wd_1062 : Cond.instanceMethod yX6_mending ∈ mh_TB := mh_tb1 (mh_t5 (List.mem_of_getElem? (i := 102) rfl)) rfl
theorem wd_1063 : Cond.selects RX6 yX6_mending yX6_mending ∈ mh_TB := mh_tb1 (mh_t5 (List.mem_of_getElem? (i := 103) rfl)) rfl
theorem wd_1064 : Cond.code yX6_mending cX6_mending 7 (some .int) ∈ mh_TB := mh_tb1 (mh_t5 (List.mem_of_getElem? (i := 104) rfl)) rfl
theorem wd_1065 : Cond.methodLink RL 129 yX6_mend ∈ mh_TB := mh_tb1 (mh_t5 (List.mem_of_getElem? (i := 105) rfl)) rfl
theorem wd_1066 : Cond.instanceMethod yX6_mend ∈ mh_TB := mh_tb1 (mh_t5 (List.mem_of_getElem? (i := 106) rfl)) rfl
theorem wd_1067 : Cond.selects RX6 yX6_mend yX6_mend ∈ mh_TB := mh_tb1 (mh_t5 (List.mem_of_getElem? (i := 107) rfl)) rfl
theorem wd_1068 : Cond.code yX6_mend cX6_mend 5 (some .int) ∈ mh_TB := mh_tb1 (mh_t5 (List.mem_of_getElem? (i := 108) rfl)) rfl
theorem wd_1069 : Cond.methodLink RL 133 yX6_block ∈ mh_TB := mh_tb1 (mh_t5 (List.mem_of_getElem? (i := 109) rfl)) rfl
theorem wd_1070 : Cond.instanceMethod yX6_block ∈ mh_TB := mh_tb1 (mh_t5 (List.mem_of_getElem? (i := 110) rfl)) rfl
theorem wd_1071 : Cond.selects RX6 yX6_block yX6_block ∈ mh_TB := mh_tb1 (mh_t5 (List.mem_of_getElem? (i := 111) rfl)) rfl
theorem wd_1072 : Cond.code yX6_block cX6_block 3 (some .int) ∈ mh_TB := mh_tb1 (mh_t5 (List.mem_of_getElem? (i := 112) rfl)) rfl
theorem wd_1073 : Cond.methodLink RL 137 yX6_seen ∈ mh_TB := mh_tb1 (mh_t5 (List.mem_of_getElem? (i := 113) rfl)) rfl
theorem wd_1074 : Cond.instanceMethod yX6_seen ∈ mh_TB := mh_tb1 (mh_t5 (List.mem_of_getElem? (i := 114) rfl)) rfl
theorem wd_1075 : Cond.selects RX6 yX6_seen yX6_seen ∈ mh_TB := mh_tb1 (mh_t5 (List.mem_of_getElem? (i := 115) rfl)) rfl
theorem wd_1076 : Cond.code yX6_seen cX6_seen 6 (some .long) ∈ mh_TB := mh_tb1 (mh_t5 (List.mem_of_getElem? (i := 116) rfl)) rfl
theorem wd_1077 : Cond.methodLink RL 141 yX6_slack ∈ mh_TB := mh_tb1 (mh_t5 (List.mem_of_getElem? (i := 117) rfl)) rfl
theorem wd_1078 : Cond.instanceMethod yX6_slack ∈ mh_TB := mh_tb1 (mh_t5 (List.mem_of_getElem? (i := 118) rfl)) rfl
theorem wd_1079 : Cond.selects RX6 yX6_slack yX6_slack ∈ mh_TB := mh_tb1 (mh_t5 (List.mem_of_getElem? (i := 119) rfl)) rfl
theorem wd_1080 : Cond.code yX6_slack cX6_slack 6 (some .int) ∈ mh_TB := mh_tb1 (mh_t5 (List.mem_of_getElem? (i := 120) rfl)) rfl
theorem wd_1081 : Cond.methodLink RL 145 yX6_judge ∈ mh_TB := mh_tb1 (mh_t5 (List.mem_of_getElem? (i := 121) rfl)) rfl
theorem wd_1082 : Cond.instanceMethod yX6_judge ∈ mh_TB := mh_tb1 (mh_t5 (List.mem_of_getElem? (i := 122) rfl)) rfl
theorem wd_1083 : Cond.selects RX6 yX6_judge yX6_judge ∈ mh_TB := mh_tb1 (mh_t5 (List.mem_of_getElem? (i := 123) rfl)) rfl
theorem wd_1084 : Cond.code yX6_judge cX6_judge 5 (some .int) ∈ mh_TB := mh_tb1 (mh_t5 (List.mem_of_getElem? (i := 124) rfl)) rfl
theorem wd_1085 : Cond.methodLink RX6 243 yX6_ragWrong ∈ mh_TB := mh_tb1 (mh_t5 (List.mem_of_getElem? (i := 125) rfl)) rfl
theorem wd_1087 : Cond.instanceMethod yX6_ragWrong ∈ mh_TB := mh_tb1 (mh_t5 (List.mem_of_getElem? (i := 127) rfl)) rfl
theorem wd_1088 : Cond.code yX6_ragWrong cX6_ragWrong 5 (some .int) ∈ mh_TB := mh_tb1 (mh_t5 (List.mem_of_getElem? (i := 128) rfl)) rfl
theorem wd_1089 : Cond.methodLink RX6 246 yX6_unlike ∈ mh_TB := mh_tb1 (mh_t5 (List.mem_of_getElem? (i := 129) rfl)) rfl
theorem wd_1091 : Cond.instanceMethod yX6_unlike ∈ mh_TB := mh_tb1 (mh_t5 (List.mem_of_getElem? (i := 131) rfl)) rfl
theorem wd_1092 : Cond.code yX6_unlike cX6_unlike 3 (some .int) ∈ mh_TB := mh_tb1 (mh_t5 (List.mem_of_getElem? (i := 132) rfl)) rfl
theorem wd_1093 : Cond.methodLink RL 149 yX6_which ∈ mh_TB := mh_tb1 (mh_t5 (List.mem_of_getElem? (i := 133) rfl)) rfl
theorem wd_1094 : Cond.instanceMethod yX6_which ∈ mh_TB := mh_tb1 (mh_t5 (List.mem_of_getElem? (i := 134) rfl)) rfl
theorem wd_1095 : Cond.selects RX6 yX6_which yX6_which ∈ mh_TB := mh_tb1 (mh_t5 (List.mem_of_getElem? (i := 135) rfl)) rfl
theorem wd_1096 : Cond.code yX6_which cX6_which 6 (some .long) ∈ mh_TB := mh_tb1 (mh_t5 (List.mem_of_getElem? (i := 136) rfl)) rfl
theorem wd_1097 : Cond.methodLink RL 153 yX6_span ∈ mh_TB := mh_tb1 (mh_t5 (List.mem_of_getElem? (i := 137) rfl)) rfl
theorem wd_1098 : Cond.instanceMethod yX6_span ∈ mh_TB := mh_tb1 (mh_t5 (List.mem_of_getElem? (i := 138) rfl)) rfl
theorem wd_1099 : Cond.selects RX6 yX6_span yX6_span ∈ mh_TB := mh_tb1 (mh_t5 (List.mem_of_getElem? (i := 139) rfl)) rfl
theorem wd_1100 : Cond.code yX6_span cX6_span 8 (some .int) ∈ mh_TB := mh_tb1 (mh_t5 (List.mem_of_getElem? (i := 140) rfl)) rfl
theorem wd_1101 : Cond.methodLink RL 157 yX6_laws ∈ mh_TB := mh_tb1 (mh_t5 (List.mem_of_getElem? (i := 141) rfl)) rfl
theorem wd_1102 : Cond.instanceMethod yX6_laws ∈ mh_TB := mh_tb1 (mh_t5 (List.mem_of_getElem? (i := 142) rfl)) rfl
theorem wd_1103 : Cond.selects RX6 yX6_laws yX6_laws ∈ mh_TB := mh_tb1 (mh_t5 (List.mem_of_getElem? (i := 143) rfl)) rfl
theorem wd_1104 : Cond.code yX6_laws cX6_laws 8 (some .int) ∈ mh_TB := mh_tb1 (mh_t5 (List.mem_of_getElem? (i := 144) rfl)) rfl
theorem wd_1105 : Cond.methodLink RL 161 yX6_film ∈ mh_TB := mh_tb1 (mh_t5 (List.mem_of_getElem? (i := 145) rfl)) rfl
theorem wd_1106 : Cond.instanceMethod yX6_film ∈ mh_TB := mh_tb1 (mh_t5 (List.mem_of_getElem? (i := 146) rfl)) rfl
theorem wd_1107 : Cond.selects RX6 yX6_film yX6_film ∈ mh_TB := mh_tb1 (mh_t5 (List.mem_of_getElem? (i := 147) rfl)) rfl
theorem wd_1108 : Cond.code yX6_film cX6_film 5 (some .int) ∈ mh_TB := mh_tb1 (mh_t5 (List.mem_of_getElem? (i := 148) rfl)) rfl
theorem wd_1109 : Cond.methodLink RL 165 yX6_slips ∈ mh_TB := mh_tb1 (mh_t5 (List.mem_of_getElem? (i := 149) rfl)) rfl
theorem wd_1110 : Cond.instanceMethod yX6_slips ∈ mh_TB := mh_tb1 (mh_t5 (List.mem_of_getElem? (i := 150) rfl)) rfl
theorem wd_1111 : Cond.selects RX6 yX6_slips yX6_slips ∈ mh_TB := mh_tb1 (mh_t5 (List.mem_of_getElem? (i := 151) rfl)) rfl
theorem wd_1112 : Cond.code yX6_slips cX6_slips 5 (some .int) ∈ mh_TB := mh_tb1 (mh_t5 (List.mem_of_getElem? (i := 152) rfl)) rfl
theorem wd_1113 : Cond.methodLink RX6 256 yX6_isSeed ∈ mh_TB := mh_tb1 (mh_t5 (List.mem_of_getElem? (i := 153) rfl)) rfl
theorem wd_1114 : Cond.static yX6_isSeed ∈ mh_TB := mh_tb1 (mh_t5 (List.mem_of_getElem? (i := 154) rfl)) rfl
theorem wd_1115 : Cond.code yX6_isSeed cX6_isSeed 1 (some .boolean) ∈ mh_TB := mh_tb1 (mh_t5 (List.mem_of_getElem? (i := 155) rfl)) rfl
theorem wd_1116 : Cond.constant RX6 255 (99999) ∈ mh_TB := mh_tb1 (mh_t5 (List.mem_of_getElem? (i := 156) rfl)) rfl
theorem wd_1117 : Cond.methodLink RX6 259 yX6_missed ∈ mh_TB := mh_tb1 (mh_t5 (List.mem_of_getElem? (i := 157) rfl)) rfl
theorem wd_1119 : Cond.instanceMethod yX6_missed ∈ mh_TB := mh_tb1 (mh_t5 (List.mem_of_getElem? (i := 159) rfl)) rfl
theorem wd_1120 : Cond.code yX6_missed cX6_missed 7 (some .int) ∈ mh_TB := mh_tb1 (mh_t5 (List.mem_of_getElem? (i := 160) rfl)) rfl
theorem wd_1121 : Cond.constantLong RX6 249 (48271) ∈ mh_TB := mh_tb1 (mh_t5 (List.mem_of_getElem? (i := 161) rfl)) rfl
theorem wd_1122 : Cond.constantLong RX6 251 (2147483647) ∈ mh_TB := mh_tb1 (mh_t5 (List.mem_of_getElem? (i := 162) rfl)) rfl
theorem wd_1123 : Cond.constantLong RX6 253 (100) ∈ mh_TB := mh_tb1 (mh_t5 (List.mem_of_getElem? (i := 163) rfl)) rfl
theorem wd_1124 : Cond.methodLink RL 170 yX6_odds ∈ mh_TB := mh_tb1 (mh_t5 (List.mem_of_getElem? (i := 164) rfl)) rfl
theorem wd_1125 : Cond.instanceMethod yX6_odds ∈ mh_TB := mh_tb1 (mh_t5 (List.mem_of_getElem? (i := 165) rfl)) rfl
theorem wd_1126 : Cond.selects RX6 yX6_odds yX6_odds ∈ mh_TB := mh_tb1 (mh_t5 (List.mem_of_getElem? (i := 166) rfl)) rfl
theorem wd_1127 : Cond.code yX6_odds cX6_odds 10 (some .long) ∈ mh_TB := mh_tb1 (mh_t5 (List.mem_of_getElem? (i := 167) rfl)) rfl
theorem wd_1128 : Cond.methodLink RX6 262 yX6_lowest_ ∈ mh_TB := mh_tb1 (mh_t5 (List.mem_of_getElem? (i := 168) rfl)) rfl
theorem wd_1129 : Cond.static yX6_lowest_ ∈ mh_TB := mh_tb1 (mh_t5 (List.mem_of_getElem? (i := 169) rfl)) rfl
theorem wd_1130 : Cond.code yX6_lowest_ cX6_lowest_ 11 (some .long) ∈ mh_TB := mh_tb1 (mh_t5 (List.mem_of_getElem? (i := 170) rfl)) rfl
theorem wd_1131 : Cond.methodLink RL 174 yX6_image ∈ mh_TB := mh_tb1 (mh_t5 (List.mem_of_getElem? (i := 171) rfl)) rfl
theorem wd_1132 : Cond.instanceMethod yX6_image ∈ mh_TB := mh_tb1 (mh_t5 (List.mem_of_getElem? (i := 172) rfl)) rfl
theorem wd_1133 : Cond.selects RX6 yX6_image yX6_image ∈ mh_TB := mh_tb1 (mh_t5 (List.mem_of_getElem? (i := 173) rfl)) rfl
theorem wd_1134 : Cond.code yX6_image cX6_image 2 (some .int) ∈ mh_TB := mh_tb1 (mh_t5 (List.mem_of_getElem? (i := 174) rfl)) rfl
theorem wd_1135 : Cond.methodLink RL 178 yX6_restore ∈ mh_TB := mh_tb1 (mh_t5 (List.mem_of_getElem? (i := 175) rfl)) rfl
theorem wd_1136 : Cond.instanceMethod yX6_restore ∈ mh_TB := mh_tb1 (mh_t5 (List.mem_of_getElem? (i := 176) rfl)) rfl
theorem wd_1137 : Cond.selects RX6 yX6_restore yX6_restore ∈ mh_TB := mh_tb1 (mh_t5 (List.mem_of_getElem? (i := 177) rfl)) rfl
theorem wd_1138 : Cond.code yX6_restore cX6_restore 2 (some .int) ∈ mh_TB := mh_tb1 (mh_t5 (List.mem_of_getElem? (i := 178) rfl)) rfl
theorem wd_1139 : Cond.methodLink RL 182 yX6_sheet ∈ mh_TB := mh_tb1 (mh_t5 (List.mem_of_getElem? (i := 179) rfl)) rfl
theorem wd_1140 : Cond.instanceMethod yX6_sheet ∈ mh_TB := mh_tb1 (mh_t5 (List.mem_of_getElem? (i := 180) rfl)) rfl
theorem wd_1141 : Cond.selects RX6 yX6_sheet yX6_sheet ∈ mh_TB := mh_tb1 (mh_t5 (List.mem_of_getElem? (i := 181) rfl)) rfl
theorem wd_1142 : Cond.code yX6_sheet cX6_sheet 5 (some .int) ∈ mh_TB := mh_tb1 (mh_t5 (List.mem_of_getElem? (i := 182) rfl)) rfl
theorem wd_1143 : Cond.methodLink RL 186 yX6_cell ∈ mh_TB := mh_tb1 (mh_t5 (List.mem_of_getElem? (i := 183) rfl)) rfl
theorem wd_1144 : Cond.instanceMethod yX6_cell ∈ mh_TB := mh_tb1 (mh_t5 (List.mem_of_getElem? (i := 184) rfl)) rfl
theorem wd_1145 : Cond.selects RX6 yX6_cell yX6_cell ∈ mh_TB := mh_tb1 (mh_t5 (List.mem_of_getElem? (i := 185) rfl)) rfl
theorem wd_1146 : Cond.code yX6_cell cX6_cell 4 (some .int) ∈ mh_TB := mh_tb1 (mh_t5 (List.mem_of_getElem? (i := 186) rfl)) rfl
theorem wd_1147 : Cond.methodLink RL 191 yX6_copy ∈ mh_TB := mh_tb1 (mh_t5 (List.mem_of_getElem? (i := 187) rfl)) rfl
theorem wd_1148 : Cond.instanceMethod yX6_copy ∈ mh_TB := mh_tb1 (mh_t5 (List.mem_of_getElem? (i := 188) rfl)) rfl
theorem wd_1149 : Cond.selects RX6 yX6_copy yX6_copy ∈ mh_TB := mh_tb1 (mh_t5 (List.mem_of_getElem? (i := 189) rfl)) rfl
theorem wd_1150 : Cond.code yX6_copy cX6_copy 10 (some .int) ∈ mh_TB := mh_tb1 (mh_t5 (List.mem_of_getElem? (i := 190) rfl)) rfl
theorem wd_1151 : Cond.methodLink RL 195 yX6_knits ∈ mh_TB := mh_tb1 (mh_t5 (List.mem_of_getElem? (i := 191) rfl)) rfl
theorem wd_1152 : Cond.instanceMethod yX6_knits ∈ mh_TB := mh_tb1 (mh_t5 (List.mem_of_getElem? (i := 192) rfl)) rfl
theorem wd_1153 : Cond.selects RX6 yX6_knits yX6_knits ∈ mh_TB := mh_tb1 (mh_t5 (List.mem_of_getElem? (i := 193) rfl)) rfl
theorem wd_1154 : Cond.code yX6_knits cX6_knits 9 (some .int) ∈ mh_TB := mh_tb1 (mh_t5 (List.mem_of_getElem? (i := 194) rfl)) rfl
theorem wd_1155 : Cond.methodLink RL 199 yX6_taken ∈ mh_TB := mh_tb1 (mh_t5 (List.mem_of_getElem? (i := 195) rfl)) rfl
theorem wd_1156 : Cond.instanceMethod yX6_taken ∈ mh_TB := mh_tb1 (mh_t5 (List.mem_of_getElem? (i := 196) rfl)) rfl
theorem wd_1157 : Cond.selects RX6 yX6_taken yX6_taken ∈ mh_TB := mh_tb1 (mh_t5 (List.mem_of_getElem? (i := 197) rfl)) rfl
theorem wd_1158 : Cond.code yX6_taken cX6_taken 3 (some .int) ∈ mh_TB := mh_tb1 (mh_t5 (List.mem_of_getElem? (i := 198) rfl)) rfl
theorem wd_1159 : Cond.methodLink RX6 272 yX6_isUnder ∈ mh_TB := mh_tb1 (mh_t5 (List.mem_of_getElem? (i := 199) rfl)) rfl
theorem wd_1160 : Cond.static yX6_isUnder ∈ mh_TB := mh_tb1 (mh_t5 (List.mem_of_getElem? (i := 200) rfl)) rfl
theorem wd_1161 : Cond.code yX6_isUnder cX6_isUnder 2 (some .boolean) ∈ mh_TB := mh_tb1 (mh_t5 (List.mem_of_getElem? (i := 201) rfl)) rfl
theorem wd_1162 : Cond.methodLink RX6 275 yX6_pinsIn ∈ mh_TB := mh_tb1 (mh_t5 (List.mem_of_getElem? (i := 202) rfl)) rfl
theorem wd_1164 : Cond.instanceMethod yX6_pinsIn ∈ mh_TB := mh_tb1 (mh_t5 (List.mem_of_getElem? (i := 204) rfl)) rfl
theorem wd_1165 : Cond.code yX6_pinsIn cX6_pinsIn 4 (some .int) ∈ mh_TB := mh_tb1 (mh_t5 (List.mem_of_getElem? (i := 205) rfl)) rfl
theorem wd_1166 : Cond.fieldLink RJ0 9 RJ0 "value" "[B" ∈ mh_TB := mh_tb1 (mh_t5 (List.mem_of_getElem? (i := 206) rfl)) rfl
theorem wd_1167 : Cond.fieldLink RJ0 15 RJ0 "coder" "B" ∈ mh_TB := mh_tb1 (mh_t5 (List.mem_of_getElem? (i := 207) rfl)) rfl
theorem ws_0 : Cond.selects yX3_add.cls yX3_add yX3_add ∈ mh_TB := mh_tb0 0 rfl rfl
theorem ws_1 : Cond.selects yX5_readTape.cls yX5_readTape yX5_readTape ∈ mh_TB := mh_tb0 1 rfl rfl
theorem ws_2 : Cond.selects yX3_readInto.cls yX3_readInto yX3_readInto ∈ mh_TB := mh_tb0 2 rfl rfl
theorem ws_3 : Cond.selects yX4_clear.cls yX4_clear yX4_clear ∈ mh_TB := mh_tb0 3 rfl rfl
theorem ws_4 : Cond.selects yX3_advance.cls yX3_advance yX3_advance ∈ mh_TB := mh_tb0 4 rfl rfl
theorem ws_5 : Cond.selects yX3_wordToken.cls yX3_wordToken yX3_wordToken ∈ mh_TB := mh_tb0 5 rfl rfl
theorem ws_6 : Cond.selects yX3_standsAt.cls yX3_standsAt yX3_standsAt ∈ mh_TB := mh_tb0 6 rfl rfl
theorem ws_7 : Cond.selects yX3_chain.cls yX3_chain yX3_chain ∈ mh_TB := mh_tb0 7 rfl rfl
theorem ws_8 : Cond.selects yX3_one.cls yX3_one yX3_one ∈ mh_TB := mh_tb0 8 rfl rfl
theorem ws_9 : Cond.selects yX4_add.cls yX4_add yX4_add ∈ mh_TB := mh_tb0 9 rfl rfl
theorem ws_10 : Cond.selects yX3_opened.cls yX3_opened yX3_opened ∈ mh_TB := mh_tb0 10 rfl rfl
theorem ws_11 : Cond.selects yX3_negation.cls yX3_negation yX3_negation ∈ mh_TB := mh_tb0 11 rfl rfl
theorem ws_12 : Cond.selects yX4_endPart.cls yX4_endPart yX4_endPart ∈ mh_TB := mh_tb0 12 rfl rfl
theorem ws_13 : Cond.selects yX5_law.cls yX5_law yX5_law ∈ mh_TB := mh_tb0 13 rfl rfl
theorem ws_14 : Cond.selects yX4_says.cls yX4_says yX4_says ∈ mh_TB := mh_tb0 14 rfl rfl
theorem ws_15 : Cond.selects yX4_take.cls yX4_take yX4_take ∈ mh_TB := mh_tb0 15 rfl rfl
theorem ws_16 : Cond.selects yX4_push.cls yX4_push yX4_push ∈ mh_TB := mh_tb0 16 rfl rfl
theorem ws_17 : Cond.selects yX4_pop.cls yX4_pop yX4_pop ∈ mh_TB := mh_tb0 17 rfl rfl
theorem ws_18 : Cond.selects yX1_become.cls yX1_become yX1_become ∈ mh_TB := mh_tb0 18 rfl rfl
theorem ws_19 : Cond.selects yX1_placesBelow.cls yX1_placesBelow yX1_placesBelow ∈ mh_TB := mh_tb0 19 rfl rfl
theorem ws_20 : Cond.selects yX1_over.cls yX1_over yX1_over ∈ mh_TB := mh_tb0 20 rfl rfl
theorem ws_21 : Cond.selects yX5_hangingOn.cls yX5_hangingOn yX5_hangingOn ∈ mh_TB := mh_tb0 21 rfl rfl
theorem ws_22 : Cond.selects yX1_under.cls yX1_under yX1_under ∈ mh_TB := mh_tb0 22 rfl rfl
theorem ws_23 : Cond.selects yX5_bearing.cls yX5_bearing yX5_bearing ∈ mh_TB := mh_tb0 23 rfl rfl
theorem ws_24 : Cond.selects yX1_keeps.cls yX1_keeps yX1_keeps ∈ mh_TB := mh_tb0 24 rfl rfl
theorem ws_25 : Cond.selects yX5_drop.cls yX5_drop yX5_drop ∈ mh_TB := mh_tb0 25 rfl rfl
theorem ws_26 : Cond.selects yX0_runFrom.cls yX0_runFrom yX0_runFrom ∈ mh_TB := mh_tb0 26 rfl rfl
theorem ws_27 : Cond.selects yX0_restOf.cls yX0_restOf yX0_restOf ∈ mh_TB := mh_tb0 27 rfl rfl
theorem ws_28 : Cond.selects yX5_lowestRow.cls yX5_lowestRow yX5_lowestRow ∈ mh_TB := mh_tb0 28 rfl rfl
theorem ws_29 : Cond.selects yX5_together.cls yX5_together yX5_together ∈ mh_TB := mh_tb0 29 rfl rfl
theorem ws_30 : Cond.selects yX5_dropBoth.cls yX5_dropBoth yX5_dropBoth ∈ mh_TB := mh_tb0 30 rfl rfl
theorem ws_31 : Cond.selects yX5_borneOf.cls yX5_borneOf yX5_borneOf ∈ mh_TB := mh_tb0 31 rfl rfl
theorem ws_32 : Cond.selects yX5_placesUnder.cls yX5_placesUnder yX5_placesUnder ∈ mh_TB := mh_tb0 32 rfl rfl
theorem ws_33 : Cond.selects yX5_unevenOf.cls yX5_unevenOf yX5_unevenOf ∈ mh_TB := mh_tb0 33 rfl rfl
theorem ws_34 : Cond.selects yX5_sheetRefusal.cls yX5_sheetRefusal yX5_sheetRefusal ∈ mh_TB := mh_tb0 34 rfl rfl
theorem ws_35 : Cond.selects yX2_isMissing.cls yX2_isMissing yX2_isMissing ∈ mh_TB := mh_tb0 35 rfl rfl
theorem ws_36 : Cond.selects yX5_dropPinned.cls yX5_dropPinned yX5_dropPinned ∈ mh_TB := mh_tb0 36 rfl rfl
theorem ws_37 : Cond.selects yX5_isUnlikeThoseBeside.cls yX5_isUnlikeThoseBeside yX5_isUnlikeThoseBeside ∈ mh_TB := mh_tb0 37 rfl rfl
theorem ws_38 : Cond.selects yX5_ragRefusal.cls yX5_ragRefusal yX5_ragRefusal ∈ mh_TB := mh_tb0 38 rfl rfl
theorem ws_39 : Cond.selects yX2_firstUnlike.cls yX2_firstUnlike yX2_firstUnlike ∈ mh_TB := mh_tb0 39 rfl rfl
theorem ws_40 : Cond.selects yX2_become.cls yX2_become yX2_become ∈ mh_TB := mh_tb0 40 rfl rfl
theorem ws_41 : Cond.selects yX2_put.cls yX2_put yX2_put ∈ mh_TB := mh_tb0 41 rfl rfl
theorem ws_42 : Cond.selects yX5_missed.cls yX5_missed yX5_missed ∈ mh_TB := mh_tb0 42 rfl rfl
theorem ws_43 : Cond.selects yX1_takeFrom.cls yX1_takeFrom yX1_takeFrom ∈ mh_TB := mh_tb0 43 rfl rfl
theorem ws_44 : Cond.selects yX2_hasRoom.cls yX2_hasRoom yX2_hasRoom ∈ mh_TB := mh_tb0 44 rfl rfl
theorem ws_45 : Cond.selects yX5_pinnedPlaces.cls yX5_pinnedPlaces yX5_pinnedPlaces ∈ mh_TB := mh_tb0 45 rfl rfl
theorem ws_46 : Cond.selects yX6_next.cls yX6_next yX6_next ∈ mh_TB := mh_tb0 46 rfl rfl
theorem ws_47 : Cond.selects yX6_wordFrom.cls yX6_wordFrom yX6_wordFrom ∈ mh_TB := mh_tb0 47 rfl rfl
theorem ws_48 : Cond.selects yX6_eRead.cls yX6_eRead yX6_eRead ∈ mh_TB := mh_tb0 48 rfl rfl
theorem ws_49 : Cond.selects yX6_puts.cls yX6_puts yX6_puts ∈ mh_TB := mh_tb0 49 rfl rfl
theorem ws_50 : Cond.selects yX6_unwinds.cls yX6_unwinds yX6_unwinds ∈ mh_TB := mh_tb0 50 rfl rfl
theorem ws_51 : Cond.selects yX6_opensOne.cls yX6_opensOne yX6_opensOne ∈ mh_TB := mh_tb0 51 rfl rfl
theorem ws_52 : Cond.selects yX6_holds.cls yX6_holds yX6_holds ∈ mh_TB := mh_tb0 52 rfl rfl
theorem ws_53 : Cond.selects yX6_signOf.cls yX6_signOf yX6_signOf ∈ mh_TB := mh_tb0 53 rfl rfl
theorem ws_54 : Cond.selects yX6_between.cls yX6_between yX6_between ∈ mh_TB := mh_tb0 54 rfl rfl
theorem ws_55 : Cond.selects yX6_manyIn.cls yX6_manyIn yX6_manyIn ∈ mh_TB := mh_tb0 55 rfl rfl
theorem ws_56 : Cond.selects yX6_asksOf.cls yX6_asksOf yX6_asksOf ∈ mh_TB := mh_tb0 56 rfl rfl
theorem ws_57 : Cond.selects yX6_worth.cls yX6_worth yX6_worth ∈ mh_TB := mh_tb0 57 rfl rfl
theorem ws_58 : Cond.selects yX6_through.cls yX6_through yX6_through ∈ mh_TB := mh_tb0 58 rfl rfl
theorem ws_59 : Cond.selects yX6_hanging.cls yX6_hanging yX6_hanging ∈ mh_TB := mh_tb0 59 rfl rfl
theorem ws_60 : Cond.selects yX6_uppers.cls yX6_uppers yX6_uppers ∈ mh_TB := mh_tb0 60 rfl rfl
theorem ws_61 : Cond.selects yX6_goesThrough.cls yX6_goesThrough yX6_goesThrough ∈ mh_TB := mh_tb0 61 rfl rfl
theorem ws_62 : Cond.selects yX6_isLoose.cls yX6_isLoose yX6_isLoose ∈ mh_TB := mh_tb0 62 rfl rfl
theorem ws_63 : Cond.selects yX6_keeps.cls yX6_keeps yX6_keeps ∈ mh_TB := mh_tb0 63 rfl rfl
theorem ws_64 : Cond.selects yX6_runsFrom.cls yX6_runsFrom yX6_runsFrom ∈ mh_TB := mh_tb0 64 rfl rfl
theorem ws_65 : Cond.selects yX6_runs.cls yX6_runs yX6_runs ∈ mh_TB := mh_tb0 65 rfl rfl
theorem ws_66 : Cond.selects yX6_leftOf.cls yX6_leftOf yX6_leftOf ∈ mh_TB := mh_tb0 66 rfl rfl
theorem ws_67 : Cond.selects yX6_allGone.cls yX6_allGone yX6_allGone ∈ mh_TB := mh_tb0 67 rfl rfl
theorem ws_68 : Cond.selects yX6_rubs.cls yX6_rubs yX6_rubs ∈ mh_TB := mh_tb0 68 rfl rfl
theorem ws_69 : Cond.selects yX6_lowest.cls yX6_lowest yX6_lowest ∈ mh_TB := mh_tb0 69 rfl rfl
theorem ws_70 : Cond.selects yX6_sumOf.cls yX6_sumOf yX6_sumOf ∈ mh_TB := mh_tb0 70 rfl rfl
theorem ws_71 : Cond.selects yX6_alone.cls yX6_alone yX6_alone ∈ mh_TB := mh_tb0 71 rfl rfl
theorem ws_72 : Cond.selects yX6_went.cls yX6_went yX6_went ∈ mh_TB := mh_tb0 72 rfl rfl
theorem ws_73 : Cond.selects yX6_countIn.cls yX6_countIn yX6_countIn ∈ mh_TB := mh_tb0 73 rfl rfl
theorem ws_74 : Cond.selects yX6_sheetWrong.cls yX6_sheetWrong yX6_sheetWrong ∈ mh_TB := mh_tb0 74 rfl rfl
theorem ws_75 : Cond.selects yX6_isHeld.cls yX6_isHeld yX6_isHeld ∈ mh_TB := mh_tb0 75 rfl rfl
theorem ws_76 : Cond.selects yX6_pinsFor.cls yX6_pinsFor yX6_pinsFor ∈ mh_TB := mh_tb0 76 rfl rfl
theorem ws_77 : Cond.selects yX6_ragWrong.cls yX6_ragWrong yX6_ragWrong ∈ mh_TB := mh_tb0 77 rfl rfl
theorem ws_78 : Cond.selects yX6_unlike.cls yX6_unlike yX6_unlike ∈ mh_TB := mh_tb0 78 rfl rfl
theorem ws_79 : Cond.selects yX6_missed.cls yX6_missed yX6_missed ∈ mh_TB := mh_tb0 79 rfl rfl
theorem ws_80 : Cond.selects yX6_pinsIn.cls yX6_pinsIn yX6_pinsIn ∈ mh_TB := mh_tb0 80 rfl rfl
theorem in_X0 : ∀ w ∈ u_ws RX0 TX0 3, w ∈ mh_TB := mh_lay (by decide +kernel) (by decide +kernel)
theorem in_X1 : ∀ w ∈ u_ws RX1 TX1 5, w ∈ mh_TB := mh_lay (by decide +kernel) (by decide +kernel)
theorem in_X2 : ∀ w ∈ u_ws RX2 TX2 3, w ∈ mh_TB := mh_lay (by decide +kernel) (by decide +kernel)
theorem in_X3 : ∀ w ∈ u_ws RX3 TX3 7, w ∈ mh_TB := mh_lay (by decide +kernel) (by decide +kernel)
theorem in_X4 : ∀ w ∈ u_ws RX4 TX4 5, w ∈ mh_TB := mh_lay (by decide +kernel) (by decide +kernel)
theorem in_X5 : ∀ w ∈ u_ws RX5 TX5 9, w ∈ mh_TB := mh_lay (by decide +kernel) (by decide +kernel)
theorem in_X6 : ∀ w ∈ u_ws RX6 TX6 30, w ∈ mh_TB := mh_lay (by decide +kernel) (by decide +kernel)
