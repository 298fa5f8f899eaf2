theorem mh_t1 {w : Cond} (h : w ∈ tables_1_1) : w ∈ tables_1 := List.mem_append_left _ h
theorem mh_t2 {w : Cond} (h : w ∈ tables_1_2) : w ∈ tables_1 := List.mem_append_right _ (List.mem_append_left _ h)
theorem mh_t3 {w : Cond} (h : w ∈ tables_1_3) : w ∈ tables_1 := List.mem_append_right _ (List.mem_append_right _ (List.mem_append_left _ h))
theorem mh_t4 {w : Cond} (h : w ∈ tables_1_4) : w ∈ tables_1 := List.mem_append_right _ (List.mem_append_right _ (List.mem_append_right _ h))
theorem mh_tb1 {w : Cond} (h : w ∈ tables_1) (g : goodWord w = true) : w ∈ mh_TB := List.mem_filter.mpr ⟨List.mem_append_right _ (List.mem_append_right _ h), g⟩
theorem mh_tb0 (k : Nat) {w : Cond} (h : (k2_sels lw_privs)[k]? = some w) (g : goodWord w = true) : w ∈ mh_TB := List.mem_filter.mpr ⟨List.mem_append_right _ (List.mem_append_left _ (List.mem_of_getElem? h)), g⟩
theorem mh_tbS (k : Nat) {w : Cond} (h : lw_sup[k]? = some w) (g : goodWord w = true) : w ∈ mh_TB := List.mem_filter.mpr ⟨List.mem_append_left _ (List.mem_of_getElem? h), g⟩
theorem mh_nw1 {w : Cond} (h : w ∈ tables_1) (g : mh_nest w = true) : w ∈ mh_NW := List.mem_filter.mpr ⟨h, g⟩
theorem mh_lay {ws : List Cond} (h1 : ∀ w ∈ ws, w ∈ lw_tbl) (h2 : ws.all goodWord = true) : ∀ w ∈ ws, w ∈ mh_TB := fun w h => List.mem_filter.mpr ⟨List.mem_append_right _ (h1 w h), List.all_eq_true.mp h2 w h⟩
theorem wd_0 : Cond.initialized RL ∈ mh_TB := mh_tb1 (mh_t1 (List.mem_of_getElem? (i := 0) rfl)) rfl
theorem wd_1 : Cond.initialized RX5 ∈ mh_TB := mh_tb1 (mh_t1 (List.mem_of_getElem? (i := 1) rfl)) rfl
theorem wd_2 : Cond.initialized RX1 ∈ mh_TB := mh_tb1 (mh_t1 (List.mem_of_getElem? (i := 2) rfl)) rfl
theorem wd_3 : Cond.initialized RX3 ∈ mh_TB := mh_tb1 (mh_t1 (List.mem_of_getElem? (i := 3) rfl)) rfl
theorem wd_4 : Cond.initialized RX0 ∈ mh_TB := mh_tb1 (mh_t1 (List.mem_of_getElem? (i := 4) rfl)) rfl
theorem wd_5 : Cond.initialized RX4 ∈ mh_TB := mh_tb1 (mh_t1 (List.mem_of_getElem? (i := 5) rfl)) rfl
theorem wd_6 : Cond.initialized RX2 ∈ mh_TB := mh_tb1 (mh_t1 (List.mem_of_getElem? (i := 6) rfl)) rfl
theorem wd_7 : Cond.initialized RJ0 ∈ mh_TB := mh_tb1 (mh_t1 (List.mem_of_getElem? (i := 7) rfl)) rfl
theorem wd_8 : Cond.initialized RJ1 ∈ mh_TB := mh_tb1 (mh_t1 (List.mem_of_getElem? (i := 8) rfl)) rfl
theorem wd_9 : Cond.initialized RJ3 ∈ mh_TB := mh_tb1 (mh_t1 (List.mem_of_getElem? (i := 9) rfl)) rfl
theorem wd_10 : Cond.initialized RJ2 ∈ mh_TB := mh_tb1 (mh_t1 (List.mem_of_getElem? (i := 10) rfl)) rfl
theorem wd_11 : Cond.initialized RJ5 ∈ mh_TB := mh_tb1 (mh_t1 (List.mem_of_getElem? (i := 11) rfl)) rfl
theorem wd_12 : Cond.initialized RJ4 ∈ mh_TB := mh_tb1 (mh_t1 (List.mem_of_getElem? (i := 12) rfl)) rfl
theorem wd_13 : Cond.initialized RJ8 ∈ mh_TB := mh_tb1 (mh_t1 (List.mem_of_getElem? (i := 13) rfl)) rfl
theorem wd_14 : Cond.initialized RJ9 ∈ mh_TB := mh_tb1 (mh_t1 (List.mem_of_getElem? (i := 14) rfl)) rfl
theorem wd_15 : Cond.initialized RJ7 ∈ mh_TB := mh_tb1 (mh_t1 (List.mem_of_getElem? (i := 15) rfl)) rfl
theorem wd_16 : Cond.initialized RJ10 ∈ mh_TB := mh_tb1 (mh_t1 (List.mem_of_getElem? (i := 16) rfl)) rfl
theorem wd_17 : Cond.initialized RJ6 ∈ mh_TB := mh_tb1 (mh_t1 (List.mem_of_getElem? (i := 17) rfl)) rfl
theorem wd_18 : Cond.initialized RJ13 ∈ mh_TB := mh_tb1 (mh_t1 (List.mem_of_getElem? (i := 18) rfl)) rfl
theorem wd_19 : Cond.methodLink RL 41 yX5_pin ∈ mh_TB := mh_tb1 (mh_t1 (List.mem_of_getElem? (i := 19) rfl)) rfl
theorem wd_20 : Cond.instanceMethod yX5_pin ∈ mh_TB := mh_tb1 (mh_t1 (List.mem_of_getElem? (i := 20) rfl)) rfl
theorem wd_21 : Cond.selects RX5 yX5_pin yX5_pin ∈ mh_TB := mh_tb1 (mh_t1 (List.mem_of_getElem? (i := 21) rfl)) rfl
theorem wd_22 : Cond.code yX5_pin cX5_pin 4 (some .int) ∈ mh_TB := mh_tb1 (mh_t1 (List.mem_of_getElem? (i := 22) rfl)) rfl
theorem wd_23 : Cond.methodLink RX5 101 yX5_isLoop ∈ mh_TB := mh_tb1 (mh_t1 (List.mem_of_getElem? (i := 23) rfl)) rfl
theorem wd_24 : Cond.static yX5_isLoop ∈ mh_TB := mh_tb1 (mh_t1 (List.mem_of_getElem? (i := 24) rfl)) rfl
theorem wd_25 : Cond.code yX5_isLoop cX5_isLoop 1 (some .boolean) ∈ mh_TB := mh_tb1 (mh_t1 (List.mem_of_getElem? (i := 25) rfl)) rfl
theorem wd_26 : Cond.methodLink RX5 97 yX5_within ∈ mh_TB := mh_tb1 (mh_t1 (List.mem_of_getElem? (i := 26) rfl)) rfl
theorem wd_27 : Cond.static yX5_within ∈ mh_TB := mh_tb1 (mh_t1 (List.mem_of_getElem? (i := 27) rfl)) rfl
theorem wd_28 : Cond.code yX5_within cX5_within 3 (some .boolean) ∈ mh_TB := mh_tb1 (mh_t1 (List.mem_of_getElem? (i := 28) rfl)) rfl
theorem wd_29 : Cond.methodLink RX5 139 yX5_hasBit ∈ mh_TB := mh_tb1 (mh_t1 (List.mem_of_getElem? (i := 29) rfl)) rfl
theorem wd_30 : Cond.static yX5_hasBit ∈ mh_TB := mh_tb1 (mh_t1 (List.mem_of_getElem? (i := 30) rfl)) rfl
theorem wd_31 : Cond.code yX5_hasBit cX5_hasBit 3 (some .boolean) ∈ mh_TB := mh_tb1 (mh_t1 (List.mem_of_getElem? (i := 31) rfl)) rfl
theorem wd_32 : Cond.methodLink RX5 143 yX5_bit ∈ mh_TB := mh_tb1 (mh_t1 (List.mem_of_getElem? (i := 32) rfl)) rfl
theorem wd_33 : Cond.static yX5_bit ∈ mh_TB := mh_tb1 (mh_t1 (List.mem_of_getElem? (i := 33) rfl)) rfl
theorem wd_34 : Cond.code yX5_bit cX5_bit 1 (some .long) ∈ mh_TB := mh_tb1 (mh_t1 (List.mem_of_getElem? (i := 34) rfl)) rfl
theorem wd_35 : Cond.constantLong RX5 147 (-1) ∈ mh_TB := mh_tb1 (mh_t1 (List.mem_of_getElem? (i := 35) rfl)) rfl
theorem wd_36 : Cond.methodLink RL 134 yX5_run ∈ mh_TB := mh_tb1 (mh_t1 (List.mem_of_getElem? (i := 36) rfl)) rfl
theorem wd_37 : Cond.instanceMethod yX5_run ∈ mh_TB := mh_tb1 (mh_t1 (List.mem_of_getElem? (i := 37) rfl)) rfl
theorem wd_38 : Cond.selects RX5 yX5_run yX5_run ∈ mh_TB := mh_tb1 (mh_t1 (List.mem_of_getElem? (i := 38) rfl)) rfl
theorem wd_39 : Cond.code yX5_run cX5_run 4 (some .int) ∈ mh_TB := mh_tb1 (mh_t1 (List.mem_of_getElem? (i := 39) rfl)) rfl
theorem wd_40 : Cond.methodLink RX5 104 yX5_isPull ∈ mh_TB := mh_tb1 (mh_t1 (List.mem_of_getElem? (i := 40) rfl)) rfl
theorem wd_41 : Cond.static yX5_isPull ∈ mh_TB := mh_tb1 (mh_t1 (List.mem_of_getElem? (i := 41) rfl)) rfl
theorem wd_42 : Cond.code yX5_isPull cX5_isPull 1 (some .boolean) ∈ mh_TB := mh_tb1 (mh_t1 (List.mem_of_getElem? (i := 42) rfl)) rfl
theorem wd_43 : Cond.methodLink RX5 163 yX5_drop ∈ mh_TB := mh_tb1 (mh_t1 (List.mem_of_getElem? (i := 43) rfl)) rfl
theorem wd_45 : Cond.instanceMethod yX5_drop ∈ mh_TB := mh_tb1 (mh_t1 (List.mem_of_getElem? (i := 45) rfl)) rfl
theorem wd_46 : Cond.instantiable RX5 9 ∈ mh_TB := mh_tb1 (mh_t1 (List.mem_of_getElem? (i := 46) rfl)) rfl
theorem wd_47 : Cond.code yX5_drop cX5_drop 3 (some .int) ∈ mh_TB := mh_tb1 (mh_t1 (List.mem_of_getElem? (i := 47) rfl)) rfl
theorem wd_48 : Cond.methodLink RX5 107 yX5_law ∈ mh_TB := mh_tb1 (mh_t1 (List.mem_of_getElem? (i := 48) rfl)) rfl
theorem wd_50 : Cond.instanceMethod yX5_law ∈ mh_TB := mh_tb1 (mh_t1 (List.mem_of_getElem? (i := 50) rfl)) rfl
theorem wd_51 : Cond.code yX5_law cX5_law 1 (some (.object RX4)) ∈ mh_TB := mh_tb1 (mh_t1 (List.mem_of_getElem? (i := 51) rfl)) rfl
theorem wd_52 : Cond.methodLinkNest RX5 182 yX0_runFrom RX5 ∈ mh_NW := mh_nw1 (mh_t1 (List.mem_of_getElem? (i := 52) rfl)) rfl
theorem wd_54 : Cond.instanceMethod yX0_runFrom ∈ mh_TB := mh_tb1 (mh_t1 (List.mem_of_getElem? (i := 54) rfl)) rfl
theorem wd_55 : Cond.instantiable RX0 3 ∈ mh_TB := mh_tb1 (mh_t1 (List.mem_of_getElem? (i := 55) rfl)) rfl
theorem wd_56 : Cond.code yX0_runFrom cX0_runFrom 13 (some .int) ∈ mh_TB := mh_tb1 (mh_t1 (List.mem_of_getElem? (i := 56) rfl)) rfl
theorem wd_57 : Cond.methodLinkNest RX0 22 yX1_over RX5 ∈ mh_NW := mh_nw1 (mh_t1 (List.mem_of_getElem? (i := 57) rfl)) rfl
theorem wd_59 : Cond.instanceMethod yX1_over ∈ mh_TB := mh_tb1 (mh_t1 (List.mem_of_getElem? (i := 59) rfl)) rfl
theorem wd_60 : Cond.instantiable RX1 5 ∈ mh_TB := mh_tb1 (mh_t1 (List.mem_of_getElem? (i := 60) rfl)) rfl
theorem wd_61 : Cond.code yX1_over cX1_over 6 (some .long) ∈ mh_TB := mh_tb1 (mh_t1 (List.mem_of_getElem? (i := 61) rfl)) rfl
theorem wd_62 : Cond.methodLinkNest RX1 39 yX5_goesThroughOwn RX5 ∈ mh_NW := mh_nw1 (mh_t1 (List.mem_of_getElem? (i := 62) rfl)) rfl
theorem wd_63 : Cond.static yX5_goesThroughOwn ∈ mh_TB := mh_tb1 (mh_t1 (List.mem_of_getElem? (i := 63) rfl)) rfl
theorem wd_64 : Cond.code yX5_goesThroughOwn cX5_goesThroughOwn 1 (some .boolean) ∈ mh_TB := mh_tb1 (mh_t1 (List.mem_of_getElem? (i := 64) rfl)) rfl
theorem wd_65 : Cond.methodLinkNest RX1 50 yX5_bit RX5 ∈ mh_NW := mh_nw1 (mh_t1 (List.mem_of_getElem? (i := 65) rfl)) rfl
theorem wd_66 : Cond.methodLinkNest RX1 43 yX5_goesThroughNext RX5 ∈ mh_NW := mh_nw1 (mh_t1 (List.mem_of_getElem? (i := 66) rfl)) rfl
theorem wd_67 : Cond.static yX5_goesThroughNext ∈ mh_TB := mh_tb1 (mh_t1 (List.mem_of_getElem? (i := 67) rfl)) rfl
theorem wd_68 : Cond.code yX5_goesThroughNext cX5_goesThroughNext 1 (some .boolean) ∈ mh_TB := mh_tb1 (mh_t1 (List.mem_of_getElem? (i := 68) rfl)) rfl
theorem wd_69 : Cond.methodLinkNest RX0 28 yX5_hasBit RX5 ∈ mh_NW := mh_nw1 (mh_t1 (List.mem_of_getElem? (i := 69) rfl)) rfl
theorem wd_70 : Cond.methodLinkNest RX0 32 yX1_keeps RX5 ∈ mh_NW := mh_nw1 (mh_t1 (List.mem_of_getElem? (i := 70) rfl)) rfl
theorem wd_72 : Cond.instanceMethod yX1_keeps ∈ mh_TB := mh_tb1 (mh_t1 (List.mem_of_getElem? (i := 72) rfl)) rfl
theorem wd_73 : Cond.code yX1_keeps cX1_keeps 2 (some .boolean) ∈ mh_TB := mh_tb1 (mh_t1 (List.mem_of_getElem? (i := 73) rfl)) rfl
theorem wd_74 : Cond.methodLinkNest RX1 35 yX5_hasBit RX5 ∈ mh_NW := mh_nw1 (mh_t1 (List.mem_of_getElem? (i := 74) rfl)) rfl
theorem wd_75 : Cond.methodLink RX0 36 yX0_restOf ∈ mh_TB := mh_tb1 (mh_t1 (List.mem_of_getElem? (i := 75) rfl)) rfl
theorem wd_77 : Cond.instanceMethod yX0_restOf ∈ mh_TB := mh_tb1 (mh_t1 (List.mem_of_getElem? (i := 77) rfl)) rfl
theorem wd_78 : Cond.code yX0_restOf cX0_restOf 9 (some .int) ∈ mh_TB := mh_tb1 (mh_t1 (List.mem_of_getElem? (i := 78) rfl)) rfl
theorem wd_79 : Cond.methodLink RX0 49 yJ9_max_7cf53 ∈ mh_TB := mh_tb1 (mh_t1 (List.mem_of_getElem? (i := 79) rfl)) rfl
theorem wd_80 : Cond.static yJ9_max_7cf53 ∈ mh_TB := mh_tb1 (mh_t1 (List.mem_of_getElem? (i := 80) rfl)) rfl
theorem wd_81 : Cond.code yJ9_max_7cf53 cJ9_max_7cf53 2 (some .int) ∈ mh_TB := mh_tb1 (mh_t1 (List.mem_of_getElem? (i := 81) rfl)) rfl
theorem wd_82 : Cond.methodLinkNest RX0 55 yX4_says RX5 ∈ mh_NW := mh_nw1 (mh_t1 (List.mem_of_getElem? (i := 82) rfl)) rfl
theorem wd_84 : Cond.instanceMethod yX4_says ∈ mh_TB := mh_tb1 (mh_t1 (List.mem_of_getElem? (i := 84) rfl)) rfl
theorem wd_85 : Cond.instantiable RX4 5 ∈ mh_TB := mh_tb1 (mh_t1 (List.mem_of_getElem? (i := 85) rfl)) rfl
theorem wd_86 : Cond.code yX4_says cX4_says 8 (some .int) ∈ mh_TB := mh_tb1 (mh_t1 (List.mem_of_getElem? (i := 86) rfl)) rfl
theorem wd_87 : Cond.methodLink RX4 28 yJ9_min_7cf53 ∈ mh_TB := mh_tb1 (mh_t1 (List.mem_of_getElem? (i := 87) rfl)) rfl
theorem wd_88 : Cond.static yJ9_min_7cf53 ∈ mh_TB := mh_tb1 (mh_t1 (List.mem_of_getElem? (i := 88) rfl)) rfl
theorem wd_89 : Cond.code yJ9_min_7cf53 cJ9_min_7cf53 2 (some .int) ∈ mh_TB := mh_tb1 (mh_t1 (List.mem_of_getElem? (i := 89) rfl)) rfl
theorem wd_90 : Cond.methodLink RX4 34 yX4_take ∈ mh_TB := mh_tb1 (mh_t1 (List.mem_of_getElem? (i := 90) rfl)) rfl
theorem wd_92 : Cond.instanceMethod yX4_take ∈ mh_TB := mh_tb1 (mh_t1 (List.mem_of_getElem? (i := 92) rfl)) rfl
theorem wd_93 : Cond.code yX4_take cX4_take 6 none ∈ mh_TB := mh_tb1 (mh_t1 (List.mem_of_getElem? (i := 93) rfl)) rfl
theorem wd_94 : Cond.methodLink RX4 45 yX4_push ∈ mh_TB := mh_tb1 (mh_t1 (List.mem_of_getElem? (i := 94) rfl)) rfl
theorem wd_96 : Cond.instanceMethod yX4_push ∈ mh_TB := mh_tb1 (mh_t1 (List.mem_of_getElem? (i := 96) rfl)) rfl
theorem wd_97 : Cond.code yX4_push cX4_push 2 none ∈ mh_TB := mh_tb1 (mh_t1 (List.mem_of_getElem? (i := 97) rfl)) rfl
theorem wd_98 : Cond.methodLinkNest RX4 57 yX5_faceOf RX5 ∈ mh_NW := mh_nw1 (mh_t1 (List.mem_of_getElem? (i := 98) rfl)) rfl
theorem wd_99 : Cond.static yX5_faceOf ∈ mh_TB := mh_tb1 (mh_t1 (List.mem_of_getElem? (i := 99) rfl)) rfl
theorem wd_100 : Cond.code yX5_faceOf cX5_faceOf 1 (some .int) ∈ mh_TB := mh_tb1 (mh_t1 (List.mem_of_getElem? (i := 100) rfl)) rfl
theorem wd_101 : Cond.methodLinkNest RX4 65 yX5_hasBit RX5 ∈ mh_NW := mh_nw1 (mh_t1 (List.mem_of_getElem? (i := 101) rfl)) rfl
theorem wd_102 : Cond.methodLink RX4 38 yX4_pop ∈ mh_TB := mh_tb1 (mh_t1 (List.mem_of_getElem? (i := 102) rfl)) rfl
theorem wd_104 : Cond.instanceMethod yX4_pop ∈ mh_TB := mh_tb1 (mh_t1 (List.mem_of_getElem? (i := 104) rfl)) rfl
theorem wd_105 : Cond.code yX4_pop cX4_pop 1 (some .int) ∈ mh_TB := mh_tb1 (mh_t1 (List.mem_of_getElem? (i := 105) rfl)) rfl
theorem wd_106 : Cond.methodLink RX4 69 yX4_joined ∈ mh_TB := mh_tb1 (mh_t1 (List.mem_of_getElem? (i := 106) rfl)) rfl
theorem wd_107 : Cond.static yX4_joined ∈ mh_TB := mh_tb1 (mh_t1 (List.mem_of_getElem? (i := 107) rfl)) rfl
theorem wd_108 : Cond.code yX4_joined cX4_joined 3 (some .int) ∈ mh_TB := mh_tb1 (mh_t1 (List.mem_of_getElem? (i := 108) rfl)) rfl
theorem wd_109 : Cond.methodLinkNest RX4 42 yX5_bounded RX5 ∈ mh_NW := mh_nw1 (mh_t1 (List.mem_of_getElem? (i := 109) rfl)) rfl
theorem wd_110 : Cond.static yX5_bounded ∈ mh_TB := mh_tb1 (mh_t1 (List.mem_of_getElem? (i := 110) rfl)) rfl
theorem wd_111 : Cond.code yX5_bounded cX5_bounded 2 (some .int) ∈ mh_TB := mh_tb1 (mh_t1 (List.mem_of_getElem? (i := 111) rfl)) rfl
theorem wd_112 : Cond.methodLink RX5 272 yJ9_min_7cf53 ∈ mh_TB := mh_tb1 (mh_t1 (List.mem_of_getElem? (i := 112) rfl)) rfl
theorem wd_113 : Cond.methodLink RX5 277 yJ9_max_7cf53 ∈ mh_TB := mh_tb1 (mh_t1 (List.mem_of_getElem? (i := 113) rfl)) rfl
theorem wd_114 : Cond.methodLinkNest RX0 67 yX5_rubOf RX5 ∈ mh_NW := mh_nw1 (mh_t1 (List.mem_of_getElem? (i := 114) rfl)) rfl
theorem wd_115 : Cond.static yX5_rubOf ∈ mh_TB := mh_tb1 (mh_t1 (List.mem_of_getElem? (i := 115) rfl)) rfl
theorem wd_116 : Cond.code yX5_rubOf cX5_rubOf 3 (some .int) ∈ mh_TB := mh_tb1 (mh_t1 (List.mem_of_getElem? (i := 116) rfl)) rfl
theorem wd_117 : Cond.methodLinkNest RX0 71 yX5_bounded RX5 ∈ mh_NW := mh_nw1 (mh_t1 (List.mem_of_getElem? (i := 117) rfl)) rfl
theorem wd_118 : Cond.methodLinkNest RX0 40 yX5_bit RX5 ∈ mh_NW := mh_nw1 (mh_t1 (List.mem_of_getElem? (i := 118) rfl)) rfl
theorem wd_119 : Cond.methodLink RX0 43 yJ13_bitCount_95d88 ∈ mh_TB := mh_tb1 (mh_t1 (List.mem_of_getElem? (i := 119) rfl)) rfl
theorem wd_120 : Cond.static yJ13_bitCount_95d88 ∈ mh_TB := mh_tb1 (mh_t1 (List.mem_of_getElem? (i := 120) rfl)) rfl
theorem wd_121 : Cond.code yJ13_bitCount_95d88 cJ13_bitCount_95d88 2 (some .int) ∈ mh_TB := mh_tb1 (mh_t1 (List.mem_of_getElem? (i := 121) rfl)) rfl
theorem wd_122 : Cond.constantLong RJ13 314 (6148914691236517205) ∈ mh_TB := mh_tb1 (mh_t1 (List.mem_of_getElem? (i := 122) rfl)) rfl
theorem wd_123 : Cond.constantLong RJ13 316 (3689348814741910323) ∈ mh_TB := mh_tb1 (mh_t1 (List.mem_of_getElem? (i := 123) rfl)) rfl
theorem wd_124 : Cond.constantLong RJ13 318 (1085102592571150095) ∈ mh_TB := mh_tb1 (mh_t1 (List.mem_of_getElem? (i := 124) rfl)) rfl
theorem wd_125 : Cond.methodLink RX5 74 yJ13_bitCount_95d88 ∈ mh_TB := mh_tb1 (mh_t1 (List.mem_of_getElem? (i := 125) rfl)) rfl
theorem wd_126 : Cond.methodLink RX5 170 yX5_lowestRow ∈ mh_TB := mh_tb1 (mh_t1 (List.mem_of_getElem? (i := 126) rfl)) rfl
theorem wd_128 : Cond.instanceMethod yX5_lowestRow ∈ mh_TB := mh_tb1 (mh_t1 (List.mem_of_getElem? (i := 128) rfl)) rfl
theorem wd_129 : Cond.code yX5_lowestRow cX5_lowestRow 1 (some .int) ∈ mh_TB := mh_tb1 (mh_t1 (List.mem_of_getElem? (i := 129) rfl)) rfl
theorem wd_130 : Cond.methodLink RX5 284 yJ13_numberOfTrailingZeros_95d88 ∈ mh_TB := mh_tb1 (mh_t1 (List.mem_of_getElem? (i := 130) rfl)) rfl
theorem wd_131 : Cond.static yJ13_numberOfTrailingZeros_95d88 ∈ mh_TB := mh_tb1 (mh_t1 (List.mem_of_getElem? (i := 131) rfl)) rfl
theorem wd_132 : Cond.code yJ13_numberOfTrailingZeros_95d88 cJ13_numberOfTrailingZeros_95d88 3 (some .int) ∈ mh_TB := mh_tb1 (mh_t1 (List.mem_of_getElem? (i := 132) rfl)) rfl
theorem wd_133 : Cond.methodLink RJ13 311 yJ6_numberOfTrailingZeros_0f7a4 ∈ mh_TB := mh_tb1 (mh_t1 (List.mem_of_getElem? (i := 133) rfl)) rfl
theorem wd_134 : Cond.static yJ6_numberOfTrailingZeros_0f7a4 ∈ mh_TB := mh_tb1 (mh_t1 (List.mem_of_getElem? (i := 134) rfl)) rfl
theorem wd_135 : Cond.code yJ6_numberOfTrailingZeros_0f7a4 cJ6_numberOfTrailingZeros_0f7a4 2 (some .int) ∈ mh_TB := mh_tb1 (mh_t1 (List.mem_of_getElem? (i := 135) rfl)) rfl
theorem wd_136 : Cond.constant RJ6 264 (65536) ∈ mh_TB := mh_tb1 (mh_t1 (List.mem_of_getElem? (i := 136) rfl)) rfl
theorem wd_137 : Cond.methodLink RX5 173 yX5_together ∈ mh_TB := mh_tb1 (mh_t1 (List.mem_of_getElem? (i := 137) rfl)) rfl
theorem wd_139 : Cond.instanceMethod yX5_together ∈ mh_TB := mh_tb1 (mh_t1 (List.mem_of_getElem? (i := 139) rfl)) rfl
theorem wd_140 : Cond.code yX5_together cX5_together 4 (some .int) ∈ mh_TB := mh_tb1 (mh_t1 (List.mem_of_getElem? (i := 140) rfl)) rfl
theorem wd_141 : Cond.methodLinkNest RX5 110 yX4_says RX5 ∈ mh_NW := mh_nw1 (mh_t1 (List.mem_of_getElem? (i := 141) rfl)) rfl
theorem wd_142 : Cond.methodLink RL 130 yX5_goes ∈ mh_TB := mh_tb1 (mh_t1 (List.mem_of_getElem? (i := 142) rfl)) rfl
theorem wd_143 : Cond.instanceMethod yX5_goes ∈ mh_TB := mh_tb1 (mh_t1 (List.mem_of_getElem? (i := 143) rfl)) rfl
theorem wd_144 : Cond.selects RX5 yX5_goes yX5_goes ∈ mh_TB := mh_tb1 (mh_t1 (List.mem_of_getElem? (i := 144) rfl)) rfl
theorem wd_145 : Cond.code yX5_goes cX5_goes 4 (some .long) ∈ mh_TB := mh_tb1 (mh_t1 (List.mem_of_getElem? (i := 145) rfl)) rfl
theorem wd_146 : Cond.constantLong RX5 149 (-4611686018427387904) ∈ mh_TB := mh_tb1 (mh_t1 (List.mem_of_getElem? (i := 146) rfl)) rfl
theorem wd_147 : Cond.methodLink RL 127 yX5_left ∈ mh_TB := mh_tb1 (mh_t1 (List.mem_of_getElem? (i := 147) rfl)) rfl
theorem wd_148 : Cond.instanceMethod yX5_left ∈ mh_TB := mh_tb1 (mh_t1 (List.mem_of_getElem? (i := 148) rfl)) rfl
theorem wd_149 : Cond.selects RX5 yX5_left yX5_left ∈ mh_TB := mh_tb1 (mh_t1 (List.mem_of_getElem? (i := 149) rfl)) rfl
theorem wd_150 : Cond.code yX5_left cX5_left 4 (some .int) ∈ mh_TB := mh_tb1 (mh_t1 (List.mem_of_getElem? (i := 150) rfl)) rfl
theorem wd_151 : Cond.methodLink RL 141 yX5_column ∈ mh_TB := mh_tb1 (mh_t1 (List.mem_of_getElem? (i := 151) rfl)) rfl
theorem wd_152 : Cond.instanceMethod yX5_column ∈ mh_TB := mh_tb1 (mh_t1 (List.mem_of_getElem? (i := 152) rfl)) rfl
theorem wd_153 : Cond.selects RX5 yX5_column yX5_column ∈ mh_TB := mh_tb1 (mh_t1 (List.mem_of_getElem? (i := 153) rfl)) rfl
theorem wd_154 : Cond.code yX5_column cX5_column 7 (some .int) ∈ mh_TB := mh_tb1 (mh_t1 (List.mem_of_getElem? (i := 154) rfl)) rfl
theorem wd_155 : Cond.methodLink RL 144 yX5_pinned ∈ mh_TB := mh_tb1 (mh_t1 (List.mem_of_getElem? (i := 155) rfl)) rfl
theorem wd_156 : Cond.instanceMethod yX5_pinned ∈ mh_TB := mh_tb1 (mh_t1 (List.mem_of_getElem? (i := 156) rfl)) rfl
theorem wd_157 : Cond.selects RX5 yX5_pinned yX5_pinned ∈ mh_TB := mh_tb1 (mh_t1 (List.mem_of_getElem? (i := 157) rfl)) rfl
theorem wd_158 : Cond.code yX5_pinned cX5_pinned 9 (some .int) ∈ mh_TB := mh_tb1 (mh_t1 (List.mem_of_getElem? (i := 158) rfl)) rfl
theorem wd_159 : Cond.methodLink RX5 209 yX5_dropPinned ∈ mh_TB := mh_tb1 (mh_t1 (List.mem_of_getElem? (i := 159) rfl)) rfl
theorem wd_161 : Cond.instanceMethod yX5_dropPinned ∈ mh_TB := mh_tb1 (mh_t1 (List.mem_of_getElem? (i := 161) rfl)) rfl
theorem wd_162 : Cond.code yX5_dropPinned cX5_dropPinned 5 (some .int) ∈ mh_TB := mh_tb1 (mh_t1 (List.mem_of_getElem? (i := 162) rfl)) rfl
theorem wd_163 : Cond.methodLink RL 138 yX5_mending ∈ mh_TB := mh_tb1 (mh_t1 (List.mem_of_getElem? (i := 163) rfl)) rfl
theorem wd_164 : Cond.instanceMethod yX5_mending ∈ mh_TB := mh_tb1 (mh_t1 (List.mem_of_getElem? (i := 164) rfl)) rfl
theorem wd_165 : Cond.selects RX5 yX5_mending yX5_mending ∈ mh_TB := mh_tb1 (mh_t1 (List.mem_of_getElem? (i := 165) rfl)) rfl
theorem wd_166 : Cond.code yX5_mending cX5_mending 8 (some .int) ∈ mh_TB := mh_tb1 (mh_t1 (List.mem_of_getElem? (i := 166) rfl)) rfl
theorem wd_167 : Cond.methodLink RL 58 yL_at ∈ mh_TB := mh_tb1 (mh_t1 (List.mem_of_getElem? (i := 167) rfl)) rfl
theorem wd_168 : Cond.static yL_at ∈ mh_TB := mh_tb1 (mh_t1 (List.mem_of_getElem? (i := 168) rfl)) rfl
theorem wd_169 : Cond.code yL_at cL_at 2 (some .int) ∈ mh_TB := mh_tb1 (mh_t1 (List.mem_of_getElem? (i := 169) rfl)) rfl
theorem wd_170 : Cond.methodLink RL 119 yL_build ∈ mh_TB := mh_tb1 (mh_t1 (List.mem_of_getElem? (i := 170) rfl)) rfl
theorem wd_171 : Cond.static yL_build ∈ mh_TB := mh_tb1 (mh_t1 (List.mem_of_getElem? (i := 171) rfl)) rfl
theorem wd_172 : Cond.code yL_build cL_build 3 (some (.object RX5)) ∈ mh_TB := mh_tb1 (mh_t1 (List.mem_of_getElem? (i := 172) rfl)) rfl
theorem wd_173 : Cond.classLink RL 18 RX5 ∈ mh_TB := mh_tb1 (mh_t1 (List.mem_of_getElem? (i := 173) rfl)) rfl
theorem wd_174 : Cond.methodLink RL 23 yX5_init ∈ mh_TB := mh_tb1 (mh_t1 (List.mem_of_getElem? (i := 174) rfl)) rfl
theorem wd_175 : Cond.instanceMethod yX5_init ∈ mh_TB := mh_tb1 (mh_t1 (List.mem_of_getElem? (i := 175) rfl)) rfl
theorem wd_176 : Cond.code yX5_init cX5_init 2 none ∈ mh_TB := mh_tb1 (mh_t1 (List.mem_of_getElem? (i := 176) rfl)) rfl
theorem wd_177 : Cond.methodLink RX5 1 Lib.objectInit ∈ mh_TB := mh_tb1 (mh_t1 (List.mem_of_getElem? (i := 177) rfl)) rfl
theorem wd_178 : Cond.instanceMethod Lib.objectInit ∈ mh_TB := mh_tb1 (mh_t1 (List.mem_of_getElem? (i := 178) rfl)) rfl
theorem wd_179 : Cond.code Lib.objectInit ⟨#[0xb1]⟩ 1 none ∈ mh_TB := mh_tb1 (mh_t1 (List.mem_of_getElem? (i := 179) rfl)) rfl
theorem wd_180 : Cond.classLink RX5 7 RX1 ∈ mh_TB := mh_tb1 (mh_t1 (List.mem_of_getElem? (i := 180) rfl)) rfl
theorem wd_181 : Cond.methodLinkNest RX5 9 yX1_init RX5 ∈ mh_NW := mh_nw1 (mh_t1 (List.mem_of_getElem? (i := 181) rfl)) rfl
theorem wd_182 : Cond.instanceMethod yX1_init ∈ mh_TB := mh_tb1 (mh_t1 (List.mem_of_getElem? (i := 182) rfl)) rfl
theorem wd_183 : Cond.code yX1_init cX1_init 1 none ∈ mh_TB := mh_tb1 (mh_t1 (List.mem_of_getElem? (i := 183) rfl)) rfl
theorem wd_184 : Cond.methodLink RX1 3 Lib.objectInit ∈ mh_TB := mh_tb1 (mh_t1 (List.mem_of_getElem? (i := 184) rfl)) rfl
theorem wd_185 : Cond.fieldLink RX1 9 RX1 "kinds" "[I" ∈ mh_TB := mh_tb1 (mh_t1 (List.mem_of_getElem? (i := 185) rfl)) rfl
theorem wd_186 : Cond.fieldLinkNest RX0 61 RX1 "kinds" "[I" RX5 ∈ mh_NW := mh_nw1 (mh_t1 (List.mem_of_getElem? (i := 186) rfl)) rfl
theorem wd_187 : Cond.fieldLinkNest RX4 54 RX1 "kinds" "[I" RX5 ∈ mh_NW := mh_nw1 (mh_t1 (List.mem_of_getElem? (i := 187) rfl)) rfl
theorem wd_188 : Cond.fieldLinkNest RX5 118 RX1 "kinds" "[I" RX5 ∈ mh_NW := mh_nw1 (mh_t1 (List.mem_of_getElem? (i := 188) rfl)) rfl
theorem wd_189 : Cond.fieldLink RX1 15 RX1 "mores" "[I" ∈ mh_TB := mh_tb1 (mh_t1 (List.mem_of_getElem? (i := 189) rfl)) rfl
theorem wd_190 : Cond.fieldLinkNest RX0 64 RX1 "mores" "[I" RX5 ∈ mh_NW := mh_nw1 (mh_t1 (List.mem_of_getElem? (i := 190) rfl)) rfl
theorem wd_191 : Cond.fieldLinkNest RX4 49 RX1 "mores" "[I" RX5 ∈ mh_NW := mh_nw1 (mh_t1 (List.mem_of_getElem? (i := 191) rfl)) rfl
theorem wd_192 : Cond.fieldLink RX1 24 RX1 "pins" "J" ∈ mh_TB := mh_tb1 (mh_t1 (List.mem_of_getElem? (i := 192) rfl)) rfl
theorem wd_193 : Cond.fieldLinkNest RX5 70 RX1 "pins" "J" RX5 ∈ mh_NW := mh_nw1 (mh_t1 (List.mem_of_getElem? (i := 193) rfl)) rfl
theorem wd_194 : Cond.fieldLinkNest RX4 61 RX1 "mends" "J" RX5 ∈ mh_NW := mh_nw1 (mh_t1 (List.mem_of_getElem? (i := 194) rfl)) rfl
theorem wd_195 : Cond.fieldLinkNest RX5 87 RX1 "law" "I" RX5 ∈ mh_NW := mh_nw1 (mh_t1 (List.mem_of_getElem? (i := 195) rfl)) rfl
theorem wd_206 : Cond.superclass RX1 "java/lang/Object" ∈ mh_TB := mh_tb1 (mh_t1 (List.mem_of_getElem? (i := 206) rfl)) rfl
theorem wd_207 : Cond.arrayClass .int ∈ mh_TB := mh_tb1 (mh_t1 (List.mem_of_getElem? (i := 207) rfl)) rfl
theorem wd_208 : Cond.classLink RX5 19 RX3 ∈ mh_TB := mh_tb1 (mh_t1 (List.mem_of_getElem? (i := 208) rfl)) rfl
theorem wd_209 : Cond.instantiable RX3 7 ∈ mh_TB := mh_tb1 (mh_t1 (List.mem_of_getElem? (i := 209) rfl)) rfl
theorem wd_210 : Cond.methodLinkNest RX5 21 yX3_init RX5 ∈ mh_NW := mh_nw1 (mh_t1 (List.mem_of_getElem? (i := 210) rfl)) rfl
theorem wd_211 : Cond.instanceMethod yX3_init ∈ mh_TB := mh_tb1 (mh_t1 (List.mem_of_getElem? (i := 211) rfl)) rfl
theorem wd_212 : Cond.code yX3_init cX3_init 1 none ∈ mh_TB := mh_tb1 (mh_t1 (List.mem_of_getElem? (i := 212) rfl)) rfl
theorem wd_213 : Cond.methodLink RX3 3 Lib.objectInit ∈ mh_TB := mh_tb1 (mh_t1 (List.mem_of_getElem? (i := 213) rfl)) rfl
theorem wd_214 : Cond.fieldLink RX3 9 RX3 "bytes" "[I" ∈ mh_TB := mh_tb1 (mh_t1 (List.mem_of_getElem? (i := 214) rfl)) rfl
theorem wd_215 : Cond.fieldLink RX3 15 RX3 "size" "I" ∈ mh_TB := mh_tb1 (mh_t1 (List.mem_of_getElem? (i := 215) rfl)) rfl
theorem wd_216 : Cond.fieldLinkNest RX5 90 RX3 "size" "I" RX5 ∈ mh_NW := mh_nw1 (mh_t1 (List.mem_of_getElem? (i := 216) rfl)) rfl
theorem wd_217 : Cond.fieldLink RX3 28 RX3 "behind" "I" ∈ mh_TB := mh_tb1 (mh_t1 (List.mem_of_getElem? (i := 217) rfl)) rfl
theorem wd_218 : Cond.fieldLink RX3 37 RX3 "start" "I" ∈ mh_TB := mh_tb1 (mh_t1 (List.mem_of_getElem? (i := 218) rfl)) rfl
theorem wd_219 : Cond.fieldLink RX3 34 RX3 "token" "I" ∈ mh_TB := mh_tb1 (mh_t1 (List.mem_of_getElem? (i := 219) rfl)) rfl
theorem wd_220 : Cond.fieldLink RX3 61 RX3 "value" "I" ∈ mh_TB := mh_tb1 (mh_t1 (List.mem_of_getElem? (i := 220) rfl)) rfl
theorem wd_221 : Cond.fieldLink RX3 19 RX3 "into" "LStitchLetFall$Text;" ∈ mh_TB := mh_tb1 (mh_t1 (List.mem_of_getElem? (i := 221) rfl)) rfl
theorem wd_236 : Cond.superclass RX3 "java/lang/Object" ∈ mh_TB := mh_tb1 (mh_t1 (List.mem_of_getElem? (i := 236) rfl)) rfl
theorem wd_237 : Cond.classLink RX5 26 RX4 ∈ mh_TB := mh_tb1 (mh_t1 (List.mem_of_getElem? (i := 237) rfl)) rfl
theorem wd_239 : Cond.classLink RX5 32 RX0 ∈ mh_TB := mh_tb1 (mh_t1 (List.mem_of_getElem? (i := 239) rfl)) rfl
theorem wd_240 : Cond.methodLinkNest RX5 34 yX0_init RX5 ∈ mh_NW := mh_nw1 (mh_t2 (List.mem_of_getElem? (i := 0) rfl)) rfl
theorem wd_241 : Cond.instanceMethod yX0_init ∈ mh_TB := mh_tb1 (mh_t2 (List.mem_of_getElem? (i := 1) rfl)) rfl
theorem wd_242 : Cond.code yX0_init cX0_init 1 none ∈ mh_TB := mh_tb1 (mh_t2 (List.mem_of_getElem? (i := 2) rfl)) rfl
theorem wd_243 : Cond.methodLink RX0 3 Lib.objectInit ∈ mh_TB := mh_tb1 (mh_t2 (List.mem_of_getElem? (i := 3) rfl)) rfl
theorem wd_244 : Cond.fieldLink RX0 9 RX0 "rests" "[I" ∈ mh_TB := mh_tb1 (mh_t2 (List.mem_of_getElem? (i := 4) rfl)) rfl
theorem wd_245 : Cond.fieldLinkNest RX5 179 RX0 "rests" "[I" RX5 ∈ mh_NW := mh_nw1 (mh_t2 (List.mem_of_getElem? (i := 5) rfl)) rfl
theorem wd_246 : Cond.fieldLink RX0 15 RX0 "gone" "J" ∈ mh_TB := mh_tb1 (mh_t2 (List.mem_of_getElem? (i := 6) rfl)) rfl
theorem wd_247 : Cond.fieldLinkNest RX5 167 RX0 "gone" "J" RX5 ∈ mh_NW := mh_nw1 (mh_t2 (List.mem_of_getElem? (i := 7) rfl)) rfl
theorem wd_248 : Cond.fieldLink RX0 19 RX0 "stops" "J" ∈ mh_TB := mh_tb1 (mh_t2 (List.mem_of_getElem? (i := 8) rfl)) rfl
theorem wd_249 : Cond.fieldLinkNest RX5 176 RX0 "stops" "J" RX5 ∈ mh_NW := mh_nw1 (mh_t2 (List.mem_of_getElem? (i := 9) rfl)) rfl
theorem wd_256 : Cond.superclass RX0 "java/lang/Object" ∈ mh_TB := mh_tb1 (mh_t2 (List.mem_of_getElem? (i := 16) rfl)) rfl
theorem wd_257 : Cond.classLink RX5 39 RX2 ∈ mh_TB := mh_tb1 (mh_t2 (List.mem_of_getElem? (i := 17) rfl)) rfl
theorem wd_259 : Cond.methodLinkNest RX5 49 yX4_init RX5 ∈ mh_NW := mh_nw1 (mh_t2 (List.mem_of_getElem? (i := 19) rfl)) rfl
theorem wd_260 : Cond.instanceMethod yX4_init ∈ mh_TB := mh_tb1 (mh_t2 (List.mem_of_getElem? (i := 20) rfl)) rfl
theorem wd_261 : Cond.code yX4_init cX4_init 1 none ∈ mh_TB := mh_tb1 (mh_t2 (List.mem_of_getElem? (i := 21) rfl)) rfl
theorem wd_262 : Cond.methodLink RX4 3 Lib.objectInit ∈ mh_TB := mh_tb1 (mh_t2 (List.mem_of_getElem? (i := 22) rfl)) rfl
theorem wd_263 : Cond.fieldLink RX4 9 RX4 "steps" "[I" ∈ mh_TB := mh_tb1 (mh_t2 (List.mem_of_getElem? (i := 23) rfl)) rfl
theorem wd_264 : Cond.fieldLink RX4 21 RX4 "size" "I" ∈ mh_TB := mh_tb1 (mh_t2 (List.mem_of_getElem? (i := 24) rfl)) rfl
theorem wd_265 : Cond.fieldLink RX4 15 RX4 "ends" "[I" ∈ mh_TB := mh_tb1 (mh_t2 (List.mem_of_getElem? (i := 25) rfl)) rfl
theorem wd_266 : Cond.fieldLink RX4 18 RX4 "stack" "[I" ∈ mh_TB := mh_tb1 (mh_t2 (List.mem_of_getElem? (i := 26) rfl)) rfl
theorem wd_267 : Cond.fieldLink RX4 25 RX4 "top" "I" ∈ mh_TB := mh_tb1 (mh_t2 (List.mem_of_getElem? (i := 27) rfl)) rfl
theorem wd_278 : Cond.superclass RX4 "java/lang/Object" ∈ mh_TB := mh_tb1 (mh_t2 (List.mem_of_getElem? (i := 38) rfl)) rfl
theorem wd_279 : Cond.arrayClass .long ∈ mh_TB := mh_tb1 (mh_t2 (List.mem_of_getElem? (i := 39) rfl)) rfl
theorem wd_280 : Cond.instantiable RX2 3 ∈ mh_TB := mh_tb1 (mh_t2 (List.mem_of_getElem? (i := 40) rfl)) rfl
theorem wd_281 : Cond.methodLinkNest RX5 50 yX2_init RX5 ∈ mh_NW := mh_nw1 (mh_t2 (List.mem_of_getElem? (i := 41) rfl)) rfl
theorem wd_282 : Cond.instanceMethod yX2_init ∈ mh_TB := mh_tb1 (mh_t2 (List.mem_of_getElem? (i := 42) rfl)) rfl
theorem wd_283 : Cond.code yX2_init cX2_init 1 none ∈ mh_TB := mh_tb1 (mh_t2 (List.mem_of_getElem? (i := 43) rfl)) rfl
theorem wd_284 : Cond.methodLink RX2 3 Lib.objectInit ∈ mh_TB := mh_tb1 (mh_t2 (List.mem_of_getElem? (i := 44) rfl)) rfl
theorem wd_285 : Cond.fieldLink RX2 9 RX2 "numbers" "[I" ∈ mh_TB := mh_tb1 (mh_t2 (List.mem_of_getElem? (i := 45) rfl)) rfl
theorem wd_286 : Cond.fieldLink RX2 15 RX2 "sort" "I" ∈ mh_TB := mh_tb1 (mh_t2 (List.mem_of_getElem? (i := 46) rfl)) rfl
theorem wd_293 : Cond.superclass RX2 "java/lang/Object" ∈ mh_TB := mh_tb1 (mh_t2 (List.mem_of_getElem? (i := 53) rfl)) rfl
theorem wd_295 : Cond.methodLink RX5 53 yJ0_length_8abf5 ∈ mh_TB := mh_tb1 (mh_t2 (List.mem_of_getElem? (i := 55) rfl)) rfl
theorem wd_296 : Cond.instanceMethod yJ0_length_8abf5 ∈ mh_TB := mh_tb1 (mh_t2 (List.mem_of_getElem? (i := 56) rfl)) rfl
theorem wd_297 : Cond.selects RJ0 yJ0_length_8abf5 yJ0_length_8abf5 ∈ mh_TB := mh_tb1 (mh_t2 (List.mem_of_getElem? (i := 57) rfl)) rfl
theorem wd_298 : Cond.code yJ0_length_8abf5 cJ0_length_8abf5 1 (some .int) ∈ mh_TB := mh_tb1 (mh_t2 (List.mem_of_getElem? (i := 58) rfl)) rfl
theorem wd_299 : Cond.methodLink RJ0 335 yJ0_coder_7d493 ∈ mh_TB := mh_tb1 (mh_t2 (List.mem_of_getElem? (i := 59) rfl)) rfl
theorem wd_300 : Cond.instanceMethod yJ0_coder_7d493 ∈ mh_TB := mh_tb1 (mh_t2 (List.mem_of_getElem? (i := 60) rfl)) rfl
theorem wd_301 : Cond.selects RJ0 yJ0_coder_7d493 yJ0_coder_7d493 ∈ mh_TB := mh_tb1 (mh_t2 (List.mem_of_getElem? (i := 61) rfl)) rfl
theorem wd_302 : Cond.code yJ0_coder_7d493 cJ0_coder_7d493 1 (some .byte) ∈ mh_TB := mh_tb1 (mh_t2 (List.mem_of_getElem? (i := 62) rfl)) rfl
theorem wd_303 : Cond.fieldLink RJ0 38 RJ0 "COMPACT_STRINGS" "Z" ∈ mh_TB := mh_tb1 (mh_t2 (List.mem_of_getElem? (i := 63) rfl)) rfl
theorem wd_305 : Cond.methodLink RX5 59 yJ0_charAt_5068e ∈ mh_TB := mh_tb1 (mh_t2 (List.mem_of_getElem? (i := 65) rfl)) rfl
theorem wd_306 : Cond.instanceMethod yJ0_charAt_5068e ∈ mh_TB := mh_tb1 (mh_t2 (List.mem_of_getElem? (i := 66) rfl)) rfl
theorem wd_307 : Cond.selects RJ0 yJ0_charAt_5068e yJ0_charAt_5068e ∈ mh_TB := mh_tb1 (mh_t2 (List.mem_of_getElem? (i := 67) rfl)) rfl
theorem wd_308 : Cond.code yJ0_charAt_5068e cJ0_charAt_5068e 2 (some .char) ∈ mh_TB := mh_tb1 (mh_t2 (List.mem_of_getElem? (i := 68) rfl)) rfl
theorem wd_309 : Cond.methodLink RJ0 492 yJ0_isLatin1_aae02 ∈ mh_TB := mh_tb1 (mh_t2 (List.mem_of_getElem? (i := 69) rfl)) rfl
theorem wd_310 : Cond.instanceMethod yJ0_isLatin1_aae02 ∈ mh_TB := mh_tb1 (mh_t2 (List.mem_of_getElem? (i := 70) rfl)) rfl
theorem wd_311 : Cond.selects RJ0 yJ0_isLatin1_aae02 yJ0_isLatin1_aae02 ∈ mh_TB := mh_tb1 (mh_t2 (List.mem_of_getElem? (i := 71) rfl)) rfl
theorem wd_312 : Cond.code yJ0_isLatin1_aae02 cJ0_isLatin1_aae02 1 (some .boolean) ∈ mh_TB := mh_tb1 (mh_t2 (List.mem_of_getElem? (i := 72) rfl)) rfl
theorem wd_313 : Cond.methodLink RJ0 495 yJ1_charAt_3b067 ∈ mh_TB := mh_tb1 (mh_t2 (List.mem_of_getElem? (i := 73) rfl)) rfl
theorem wd_314 : Cond.static yJ1_charAt_3b067 ∈ mh_TB := mh_tb1 (mh_t2 (List.mem_of_getElem? (i := 74) rfl)) rfl
theorem wd_315 : Cond.code yJ1_charAt_3b067 cJ1_charAt_3b067 2 (some .char) ∈ mh_TB := mh_tb1 (mh_t2 (List.mem_of_getElem? (i := 75) rfl)) rfl
theorem wd_316 : Cond.methodLink RJ1 9 yJ0_checkIndex_df160 ∈ mh_TB := mh_tb1 (mh_t2 (List.mem_of_getElem? (i := 76) rfl)) rfl
theorem wd_317 : Cond.static yJ0_checkIndex_df160 ∈ mh_TB := mh_tb1 (mh_t2 (List.mem_of_getElem? (i := 77) rfl)) rfl
theorem wd_318 : Cond.code yJ0_checkIndex_df160 cJ0_checkIndex_df160 2 none ∈ mh_TB := mh_tb1 (mh_t2 (List.mem_of_getElem? (i := 78) rfl)) rfl
theorem wd_319 : Cond.fieldLink RJ0 1053 RJ3 "SIOOBE_FORMATTER" "Ljava/util/function/BiFunction;" ∈ mh_TB := mh_tb1 (mh_t2 (List.mem_of_getElem? (i := 79) rfl)) rfl
theorem wd_321 : Cond.methodLink RJ0 1059 yJ3_checkIndex_8e157 ∈ mh_TB := mh_tb1 (mh_t2 (List.mem_of_getElem? (i := 81) rfl)) rfl
theorem wd_322 : Cond.static yJ3_checkIndex_8e157 ∈ mh_TB := mh_tb1 (mh_t2 (List.mem_of_getElem? (i := 82) rfl)) rfl
theorem wd_323 : Cond.code yJ3_checkIndex_8e157 cJ3_checkIndex_8e157 3 (some .int) ∈ mh_TB := mh_tb1 (mh_t2 (List.mem_of_getElem? (i := 83) rfl)) rfl
theorem wd_324 : Cond.methodLink RJ0 498 yJ2_charAt_3b067 ∈ mh_TB := mh_tb1 (mh_t2 (List.mem_of_getElem? (i := 84) rfl)) rfl
theorem wd_325 : Cond.static yJ2_charAt_3b067 ∈ mh_TB := mh_tb1 (mh_t2 (List.mem_of_getElem? (i := 85) rfl)) rfl
theorem wd_326 : Cond.code yJ2_charAt_3b067 cJ2_charAt_3b067 2 (some .char) ∈ mh_TB := mh_tb1 (mh_t2 (List.mem_of_getElem? (i := 86) rfl)) rfl
theorem wd_327 : Cond.methodLink RJ2 67 yJ2_checkIndex_2214a ∈ mh_TB := mh_tb1 (mh_t2 (List.mem_of_getElem? (i := 87) rfl)) rfl
theorem wd_328 : Cond.static yJ2_checkIndex_2214a ∈ mh_TB := mh_tb1 (mh_t2 (List.mem_of_getElem? (i := 88) rfl)) rfl
theorem wd_329 : Cond.code yJ2_checkIndex_2214a cJ2_checkIndex_2214a 2 none ∈ mh_TB := mh_tb1 (mh_t2 (List.mem_of_getElem? (i := 89) rfl)) rfl
theorem wd_330 : Cond.methodLink RJ2 48 yJ2_length_9d52b ∈ mh_TB := mh_tb1 (mh_t2 (List.mem_of_getElem? (i := 90) rfl)) rfl
theorem wd_331 : Cond.static yJ2_length_9d52b ∈ mh_TB := mh_tb1 (mh_t2 (List.mem_of_getElem? (i := 91) rfl)) rfl
theorem wd_332 : Cond.code yJ2_length_9d52b cJ2_length_9d52b 1 (some .int) ∈ mh_TB := mh_tb1 (mh_t2 (List.mem_of_getElem? (i := 92) rfl)) rfl
theorem wd_333 : Cond.methodLink RJ2 414 yJ0_checkIndex_df160 ∈ mh_TB := mh_tb1 (mh_t2 (List.mem_of_getElem? (i := 93) rfl)) rfl
theorem wd_334 : Cond.methodLink RJ2 71 yJ2_getChar_3b067 ∈ mh_TB := mh_tb1 (mh_t2 (List.mem_of_getElem? (i := 94) rfl)) rfl
theorem wd_335 : Cond.static yJ2_getChar_3b067 ∈ mh_TB := mh_tb1 (mh_t2 (List.mem_of_getElem? (i := 95) rfl)) rfl
theorem wd_336 : Cond.code yJ2_getChar_3b067 cJ2_getChar_3b067 2 (some .char) ∈ mh_TB := mh_tb1 (mh_t2 (List.mem_of_getElem? (i := 96) rfl)) rfl
theorem wd_337 : Cond.fieldLink RJ2 44 RJ2 "$assertionsDisabled" "Z" ∈ mh_TB := mh_tb1 (mh_t2 (List.mem_of_getElem? (i := 97) rfl)) rfl
theorem wd_339 : Cond.fieldLink RJ2 59 RJ2 "HI_BYTE_SHIFT" "I" ∈ mh_TB := mh_tb1 (mh_t2 (List.mem_of_getElem? (i := 99) rfl)) rfl
theorem wd_341 : Cond.fieldLink RJ2 63 RJ2 "LO_BYTE_SHIFT" "I" ∈ mh_TB := mh_tb1 (mh_t2 (List.mem_of_getElem? (i := 101) rfl)) rfl
theorem wd_343 : Cond.methodLinkNest RX5 63 yX3_add RX5 ∈ mh_NW := mh_nw1 (mh_t2 (List.mem_of_getElem? (i := 103) rfl)) rfl
theorem wd_345 : Cond.instanceMethod yX3_add ∈ mh_TB := mh_tb1 (mh_t2 (List.mem_of_getElem? (i := 105) rfl)) rfl
theorem wd_346 : Cond.code yX3_add cX3_add 2 none ∈ mh_TB := mh_tb1 (mh_t2 (List.mem_of_getElem? (i := 106) rfl)) rfl
theorem wd_347 : Cond.methodLink RX5 67 yX5_readTape ∈ mh_TB := mh_tb1 (mh_t2 (List.mem_of_getElem? (i := 107) rfl)) rfl
theorem wd_349 : Cond.instanceMethod yX5_readTape ∈ mh_TB := mh_tb1 (mh_t2 (List.mem_of_getElem? (i := 109) rfl)) rfl
theorem wd_350 : Cond.code yX5_readTape cX5_readTape 2 (some .int) ∈ mh_TB := mh_tb1 (mh_t2 (List.mem_of_getElem? (i := 110) rfl)) rfl
theorem wd_351 : Cond.methodLinkNest RX5 280 yX3_readInto RX5 ∈ mh_NW := mh_nw1 (mh_t2 (List.mem_of_getElem? (i := 111) rfl)) rfl
theorem wd_353 : Cond.instanceMethod yX3_readInto ∈ mh_TB := mh_tb1 (mh_t2 (List.mem_of_getElem? (i := 113) rfl)) rfl
theorem wd_354 : Cond.code yX3_readInto cX3_readInto 3 (some .int) ∈ mh_TB := mh_tb1 (mh_t2 (List.mem_of_getElem? (i := 114) rfl)) rfl
theorem wd_355 : Cond.methodLinkNest RX3 23 yX4_clear RX5 ∈ mh_NW := mh_nw1 (mh_t2 (List.mem_of_getElem? (i := 115) rfl)) rfl
theorem wd_357 : Cond.instanceMethod yX4_clear ∈ mh_TB := mh_tb1 (mh_t2 (List.mem_of_getElem? (i := 117) rfl)) rfl
theorem wd_358 : Cond.code yX4_clear cX4_clear 1 none ∈ mh_TB := mh_tb1 (mh_t2 (List.mem_of_getElem? (i := 118) rfl)) rfl
theorem wd_359 : Cond.methodLink RX3 31 yX3_advance ∈ mh_TB := mh_tb1 (mh_t2 (List.mem_of_getElem? (i := 119) rfl)) rfl
theorem wd_361 : Cond.instanceMethod yX3_advance ∈ mh_TB := mh_tb1 (mh_t2 (List.mem_of_getElem? (i := 121) rfl)) rfl
theorem wd_362 : Cond.code yX3_advance cX3_advance 2 none ∈ mh_TB := mh_tb1 (mh_t2 (List.mem_of_getElem? (i := 122) rfl)) rfl
theorem wd_363 : Cond.methodLink RX3 71 yX3_isLetter ∈ mh_TB := mh_tb1 (mh_t2 (List.mem_of_getElem? (i := 123) rfl)) rfl
theorem wd_364 : Cond.static yX3_isLetter ∈ mh_TB := mh_tb1 (mh_t2 (List.mem_of_getElem? (i := 124) rfl)) rfl
theorem wd_365 : Cond.code yX3_isLetter cX3_isLetter 1 (some .boolean) ∈ mh_TB := mh_tb1 (mh_t2 (List.mem_of_getElem? (i := 125) rfl)) rfl
theorem wd_366 : Cond.methodLinkNest RX3 64 yX5_within RX5 ∈ mh_NW := mh_nw1 (mh_t2 (List.mem_of_getElem? (i := 126) rfl)) rfl
theorem wd_367 : Cond.methodLink RX3 74 yX3_wordToken ∈ mh_TB := mh_tb1 (mh_t2 (List.mem_of_getElem? (i := 127) rfl)) rfl
theorem wd_369 : Cond.instanceMethod yX3_wordToken ∈ mh_TB := mh_tb1 (mh_t2 (List.mem_of_getElem? (i := 129) rfl)) rfl
theorem wd_370 : Cond.code yX3_wordToken cX3_wordToken 4 (some .int) ∈ mh_TB := mh_tb1 (mh_t2 (List.mem_of_getElem? (i := 130) rfl)) rfl
theorem wd_372 : Cond.methodLink RX3 86 yJ0_length_8abf5 ∈ mh_TB := mh_tb1 (mh_t2 (List.mem_of_getElem? (i := 132) rfl)) rfl
theorem wd_373 : Cond.methodLink RX3 92 yJ0_charAt_5068e ∈ mh_TB := mh_tb1 (mh_t2 (List.mem_of_getElem? (i := 133) rfl)) rfl
theorem wd_374 : Cond.methodLink RX3 96 yX3_standsAt ∈ mh_TB := mh_tb1 (mh_t2 (List.mem_of_getElem? (i := 134) rfl)) rfl
theorem wd_376 : Cond.instanceMethod yX3_standsAt ∈ mh_TB := mh_tb1 (mh_t2 (List.mem_of_getElem? (i := 136) rfl)) rfl
theorem wd_377 : Cond.code yX3_standsAt cX3_standsAt 5 (some .boolean) ∈ mh_TB := mh_tb1 (mh_t2 (List.mem_of_getElem? (i := 137) rfl)) rfl
theorem wd_378 : Cond.methodLink RX3 78 yX3_isDigit ∈ mh_TB := mh_tb1 (mh_t2 (List.mem_of_getElem? (i := 138) rfl)) rfl
theorem wd_379 : Cond.static yX3_isDigit ∈ mh_TB := mh_tb1 (mh_t2 (List.mem_of_getElem? (i := 139) rfl)) rfl
theorem wd_380 : Cond.code yX3_isDigit cX3_isDigit 1 (some .boolean) ∈ mh_TB := mh_tb1 (mh_t2 (List.mem_of_getElem? (i := 140) rfl)) rfl
theorem wd_381 : Cond.methodLink RX3 81 yX3_isSign ∈ mh_TB := mh_tb1 (mh_t2 (List.mem_of_getElem? (i := 141) rfl)) rfl
theorem wd_382 : Cond.static yX3_isSign ∈ mh_TB := mh_tb1 (mh_t2 (List.mem_of_getElem? (i := 142) rfl)) rfl
theorem wd_383 : Cond.code yX3_isSign cX3_isSign 1 (some .boolean) ∈ mh_TB := mh_tb1 (mh_t2 (List.mem_of_getElem? (i := 143) rfl)) rfl
theorem wd_384 : Cond.methodLink RX3 40 yX3_chain ∈ mh_TB := mh_tb1 (mh_t2 (List.mem_of_getElem? (i := 144) rfl)) rfl
theorem wd_386 : Cond.instanceMethod yX3_chain ∈ mh_TB := mh_tb1 (mh_t2 (List.mem_of_getElem? (i := 146) rfl)) rfl
theorem wd_387 : Cond.code yX3_chain cX3_chain 6 (some .boolean) ∈ mh_TB := mh_tb1 (mh_t2 (List.mem_of_getElem? (i := 147) rfl)) rfl
theorem wd_388 : Cond.methodLink RX3 48 yX3_one ∈ mh_TB := mh_tb1 (mh_t2 (List.mem_of_getElem? (i := 148) rfl)) rfl
theorem wd_390 : Cond.instanceMethod yX3_one ∈ mh_TB := mh_tb1 (mh_t2 (List.mem_of_getElem? (i := 150) rfl)) rfl
theorem wd_391 : Cond.code yX3_one cX3_one 2 (some .boolean) ∈ mh_TB := mh_tb1 (mh_t2 (List.mem_of_getElem? (i := 151) rfl)) rfl
theorem wd_392 : Cond.methodLinkNest RX3 58 yX4_add RX5 ∈ mh_NW := mh_nw1 (mh_t2 (List.mem_of_getElem? (i := 152) rfl)) rfl
theorem wd_394 : Cond.instanceMethod yX4_add ∈ mh_TB := mh_tb1 (mh_t2 (List.mem_of_getElem? (i := 154) rfl)) rfl
theorem wd_395 : Cond.code yX4_add cX4_add 2 none ∈ mh_TB := mh_tb1 (mh_t2 (List.mem_of_getElem? (i := 155) rfl)) rfl
theorem wd_396 : Cond.methodLink RX3 68 yX3_opened ∈ mh_TB := mh_tb1 (mh_t2 (List.mem_of_getElem? (i := 156) rfl)) rfl
theorem wd_398 : Cond.instanceMethod yX3_opened ∈ mh_TB := mh_tb1 (mh_t2 (List.mem_of_getElem? (i := 158) rfl)) rfl
theorem wd_399 : Cond.code yX3_opened cX3_opened 3 (some .boolean) ∈ mh_TB := mh_tb1 (mh_t2 (List.mem_of_getElem? (i := 159) rfl)) rfl
theorem wd_400 : Cond.methodLink RX3 52 yX3_negation ∈ mh_TB := mh_tb1 (mh_t2 (List.mem_of_getElem? (i := 160) rfl)) rfl
theorem wd_402 : Cond.instanceMethod yX3_negation ∈ mh_TB := mh_tb1 (mh_t2 (List.mem_of_getElem? (i := 162) rfl)) rfl
theorem wd_403 : Cond.code yX3_negation cX3_negation 2 (some .boolean) ∈ mh_TB := mh_tb1 (mh_t2 (List.mem_of_getElem? (i := 163) rfl)) rfl
theorem wd_404 : Cond.methodLink RX3 55 yX3_joins ∈ mh_TB := mh_tb1 (mh_t2 (List.mem_of_getElem? (i := 164) rfl)) rfl
theorem wd_405 : Cond.static yX3_joins ∈ mh_TB := mh_tb1 (mh_t2 (List.mem_of_getElem? (i := 165) rfl)) rfl
theorem wd_406 : Cond.code yX3_joins cX3_joins 2 (some .boolean) ∈ mh_TB := mh_tb1 (mh_t2 (List.mem_of_getElem? (i := 166) rfl)) rfl
theorem wd_407 : Cond.methodLinkNest RX3 44 yX4_endPart RX5 ∈ mh_NW := mh_nw1 (mh_t2 (List.mem_of_getElem? (i := 167) rfl)) rfl
theorem wd_409 : Cond.instanceMethod yX4_endPart ∈ mh_TB := mh_tb1 (mh_t2 (List.mem_of_getElem? (i := 169) rfl)) rfl
theorem wd_410 : Cond.code yX4_endPart cX4_endPart 2 none ∈ mh_TB := mh_tb1 (mh_t2 (List.mem_of_getElem? (i := 170) rfl)) rfl
theorem wd_411 : Cond.fieldLink RX5 10 RX5 "piece" "LStitchLetFall$Piece;" ∈ mh_TB := mh_tb1 (mh_t2 (List.mem_of_getElem? (i := 171) rfl)) rfl
theorem wd_412 : Cond.fieldLink RX5 16 RX5 "kept" "LStitchLetFall$Piece;" ∈ mh_TB := mh_tb1 (mh_t2 (List.mem_of_getElem? (i := 172) rfl)) rfl
theorem wd_413 : Cond.fieldLink RX5 22 RX5 "tape" "LStitchLetFall$Tape;" ∈ mh_TB := mh_tb1 (mh_t2 (List.mem_of_getElem? (i := 173) rfl)) rfl
theorem wd_414 : Cond.fieldLink RX5 28 RX5 "texts" "[LStitchLetFall$Text;" ∈ mh_TB := mh_tb1 (mh_t2 (List.mem_of_getElem? (i := 174) rfl)) rfl
theorem wd_415 : Cond.fieldLink RX5 83 RX5 "textCount" "I" ∈ mh_TB := mh_tb1 (mh_t2 (List.mem_of_getElem? (i := 175) rfl)) rfl
theorem wd_416 : Cond.fieldLink RX5 35 RX5 "fall" "LStitchLetFall$Fall;" ∈ mh_TB := mh_tb1 (mh_t2 (List.mem_of_getElem? (i := 176) rfl)) rfl
theorem wd_417 : Cond.fieldLink RX5 41 RX5 "sheets" "[LStitchLetFall$Sheet;" ∈ mh_TB := mh_tb1 (mh_t2 (List.mem_of_getElem? (i := 177) rfl)) rfl
theorem wd_418 : Cond.fieldLink RX5 45 RX5 "goneAlone" "[J" ∈ mh_TB := mh_tb1 (mh_t2 (List.mem_of_getElem? (i := 178) rfl)) rfl
theorem wd_437 : Cond.superclass RX5 "java/lang/Object" ∈ mh_TB := mh_tb1 (mh_t2 (List.mem_of_getElem? (i := 197) rfl)) rfl
theorem wd_438 : Cond.arrayClass .byte ∈ mh_TB := mh_tb1 (mh_t2 (List.mem_of_getElem? (i := 198) rfl)) rfl
theorem wd_439 : Cond.methodLink RL 24 yL_kind ∈ mh_TB := mh_tb1 (mh_t2 (List.mem_of_getElem? (i := 199) rfl)) rfl
theorem wd_440 : Cond.static yL_kind ∈ mh_TB := mh_tb1 (mh_t2 (List.mem_of_getElem? (i := 200) rfl)) rfl
theorem wd_441 : Cond.code yL_kind cL_kind 3 (some .int) ∈ mh_TB := mh_tb1 (mh_t2 (List.mem_of_getElem? (i := 201) rfl)) rfl
theorem wd_442 : Cond.methodLink RL 30 yL_more ∈ mh_TB := mh_tb1 (mh_t2 (List.mem_of_getElem? (i := 202) rfl)) rfl
theorem wd_443 : Cond.static yL_more ∈ mh_TB := mh_tb1 (mh_t2 (List.mem_of_getElem? (i := 203) rfl)) rfl
theorem wd_444 : Cond.code yL_more cL_more 2 (some .int) ∈ mh_TB := mh_tb1 (mh_t2 (List.mem_of_getElem? (i := 204) rfl)) rfl
theorem wd_445 : Cond.methodLink RL 33 yX5_knit ∈ mh_TB := mh_tb1 (mh_t2 (List.mem_of_getElem? (i := 205) rfl)) rfl
theorem wd_446 : Cond.instanceMethod yX5_knit ∈ mh_TB := mh_tb1 (mh_t2 (List.mem_of_getElem? (i := 206) rfl)) rfl
theorem wd_447 : Cond.selects RX5 yX5_knit yX5_knit ∈ mh_TB := mh_tb1 (mh_t2 (List.mem_of_getElem? (i := 207) rfl)) rfl
theorem wd_448 : Cond.code yX5_knit cX5_knit 5 (some .int) ∈ mh_TB := mh_tb1 (mh_t2 (List.mem_of_getElem? (i := 208) rfl)) rfl
theorem wd_449 : Cond.methodLink RX5 114 yX5_isKnit ∈ mh_TB := mh_tb1 (mh_t2 (List.mem_of_getElem? (i := 209) rfl)) rfl
theorem wd_450 : Cond.static yX5_isKnit ∈ mh_TB := mh_tb1 (mh_t2 (List.mem_of_getElem? (i := 210) rfl)) rfl
theorem wd_451 : Cond.code yX5_isKnit cX5_isKnit 2 (some .boolean) ∈ mh_TB := mh_tb1 (mh_t2 (List.mem_of_getElem? (i := 211) rfl)) rfl
theorem wd_452 : Cond.methodLinkNest RX5 122 yX1_become RX5 ∈ mh_NW := mh_nw1 (mh_t2 (List.mem_of_getElem? (i := 212) rfl)) rfl
theorem wd_454 : Cond.instanceMethod yX1_become ∈ mh_TB := mh_tb1 (mh_t2 (List.mem_of_getElem? (i := 214) rfl)) rfl
theorem wd_455 : Cond.code yX1_become cX1_become 4 none ∈ mh_TB := mh_tb1 (mh_t2 (List.mem_of_getElem? (i := 215) rfl)) rfl
theorem wd_456 : Cond.methodLink RL 37 yL_pinned ∈ mh_TB := mh_tb1 (mh_t2 (List.mem_of_getElem? (i := 216) rfl)) rfl
theorem wd_457 : Cond.static yL_pinned ∈ mh_TB := mh_tb1 (mh_t2 (List.mem_of_getElem? (i := 217) rfl)) rfl
theorem wd_458 : Cond.code yL_pinned cL_pinned 2 (some .boolean) ∈ mh_TB := mh_tb1 (mh_t2 (List.mem_of_getElem? (i := 218) rfl)) rfl
theorem wd_459 : Cond.methodLink RL 45 yL_plain ∈ mh_TB := mh_tb1 (mh_t2 (List.mem_of_getElem? (i := 219) rfl)) rfl
theorem wd_460 : Cond.static yL_plain ∈ mh_TB := mh_tb1 (mh_t2 (List.mem_of_getElem? (i := 220) rfl)) rfl
theorem wd_461 : Cond.code yL_plain cL_plain 1 (some .boolean) ∈ mh_TB := mh_tb1 (mh_t2 (List.mem_of_getElem? (i := 221) rfl)) rfl
theorem wd_462 : Cond.classLink RL 49 RJ4 ∈ mh_TB := mh_tb1 (mh_t2 (List.mem_of_getElem? (i := 222) rfl)) rfl
theorem wd_463 : Cond.instantiable RJ4 4 ∈ mh_TB := mh_tb1 (mh_t2 (List.mem_of_getElem? (i := 223) rfl)) rfl
theorem wd_464 : Cond.methodLink RL 51 yJ4_init_da8c8 ∈ mh_TB := mh_tb1 (mh_t2 (List.mem_of_getElem? (i := 224) rfl)) rfl
theorem wd_465 : Cond.instanceMethod yJ4_init_da8c8 ∈ mh_TB := mh_tb1 (mh_t2 (List.mem_of_getElem? (i := 225) rfl)) rfl
theorem wd_466 : Cond.code yJ4_init_da8c8 cJ4_init_da8c8 1 none ∈ mh_TB := mh_tb1 (mh_t2 (List.mem_of_getElem? (i := 226) rfl)) rfl
theorem wd_467 : Cond.methodLink RJ4 1 yJ5_init_d00df ∈ mh_TB := mh_tb1 (mh_t2 (List.mem_of_getElem? (i := 227) rfl)) rfl
theorem wd_468 : Cond.instanceMethod yJ5_init_d00df ∈ mh_TB := mh_tb1 (mh_t2 (List.mem_of_getElem? (i := 228) rfl)) rfl
theorem wd_469 : Cond.code yJ5_init_d00df cJ5_init_d00df 2 none ∈ mh_TB := mh_tb1 (mh_t2 (List.mem_of_getElem? (i := 229) rfl)) rfl
theorem wd_470 : Cond.methodLink RJ5 3 Lib.objectInit ∈ mh_TB := mh_tb1 (mh_t2 (List.mem_of_getElem? (i := 230) rfl)) rfl
theorem wd_471 : Cond.fieldLink RJ5 18 RJ0 "COMPACT_STRINGS" "Z" ∈ mh_TB := mh_tb1 (mh_t2 (List.mem_of_getElem? (i := 231) rfl)) rfl
theorem wd_472 : Cond.methodLink RJ5 26 yJ2_newBytesFor_77867 ∈ mh_TB := mh_tb1 (mh_t2 (List.mem_of_getElem? (i := 232) rfl)) rfl
theorem wd_473 : Cond.static yJ2_newBytesFor_77867 ∈ mh_TB := mh_tb1 (mh_t2 (List.mem_of_getElem? (i := 233) rfl)) rfl
theorem wd_474 : Cond.code yJ2_newBytesFor_77867 cJ2_newBytesFor_77867 1 (some (.array .byte)) ∈ mh_TB := mh_tb1 (mh_t2 (List.mem_of_getElem? (i := 234) rfl)) rfl
theorem wd_475 : Cond.methodLink RJ2 11 yJ2_newBytesLength_0f7a4 ∈ mh_TB := mh_tb1 (mh_t2 (List.mem_of_getElem? (i := 235) rfl)) rfl
theorem wd_476 : Cond.static yJ2_newBytesLength_0f7a4 ∈ mh_TB := mh_tb1 (mh_t2 (List.mem_of_getElem? (i := 236) rfl)) rfl
theorem wd_477 : Cond.code yJ2_newBytesLength_0f7a4 cJ2_newBytesLength_0f7a4 1 (some .int) ∈ mh_TB := mh_tb1 (mh_t2 (List.mem_of_getElem? (i := 237) rfl)) rfl
theorem wd_478 : Cond.constant RJ2 20 (1073741823) ∈ mh_TB := mh_tb1 (mh_t2 (List.mem_of_getElem? (i := 238) rfl)) rfl
theorem wd_479 : Cond.fieldLink RJ5 15 RJ5 "value" "[B" ∈ mh_TB := mh_tb1 (mh_t2 (List.mem_of_getElem? (i := 239) rfl)) rfl
theorem wd_480 : Cond.fieldLink RJ5 22 RJ5 "coder" "B" ∈ mh_TB := mh_tb1 (mh_t3 (List.mem_of_getElem? (i := 0) rfl)) rfl
theorem wd_481 : Cond.fieldLink RJ0 1048 RJ5 "maybeLatin1" "Z" ∈ mh_TB := mh_tb1 (mh_t3 (List.mem_of_getElem? (i := 1) rfl)) rfl
theorem wd_482 : Cond.fieldLink RJ5 79 RJ5 "count" "I" ∈ mh_TB := mh_tb1 (mh_t3 (List.mem_of_getElem? (i := 2) rfl)) rfl
theorem wd_491 : Cond.superclass RJ4 RJ5 ∈ mh_TB := mh_tb1 (mh_t3 (List.mem_of_getElem? (i := 11) rfl)) rfl
theorem wd_493 : Cond.methodLink RL 54 yJ4_append_15ec4 ∈ mh_TB := mh_tb1 (mh_t3 (List.mem_of_getElem? (i := 13) rfl)) rfl
theorem wd_494 : Cond.instanceMethod yJ4_append_15ec4 ∈ mh_TB := mh_tb1 (mh_t3 (List.mem_of_getElem? (i := 14) rfl)) rfl
theorem wd_495 : Cond.selects RJ4 yJ4_append_15ec4 yJ4_append_15ec4 ∈ mh_TB := mh_tb1 (mh_t3 (List.mem_of_getElem? (i := 15) rfl)) rfl
theorem wd_496 : Cond.code yJ4_append_15ec4 cJ4_append_15ec4 2 (some (.object RJ4)) ∈ mh_TB := mh_tb1 (mh_t3 (List.mem_of_getElem? (i := 16) rfl)) rfl
theorem wd_497 : Cond.methodLink RJ4 29 yJ5_append_cf1ce ∈ mh_TB := mh_tb1 (mh_t3 (List.mem_of_getElem? (i := 17) rfl)) rfl
theorem wd_498 : Cond.instanceMethod yJ5_append_cf1ce ∈ mh_TB := mh_tb1 (mh_t3 (List.mem_of_getElem? (i := 18) rfl)) rfl
theorem wd_499 : Cond.code yJ5_append_cf1ce cJ5_append_cf1ce 3 (some (.object RJ5)) ∈ mh_TB := mh_tb1 (mh_t3 (List.mem_of_getElem? (i := 19) rfl)) rfl
theorem wd_500 : Cond.methodLink RJ5 204 yJ5_appendNull_278bc ∈ mh_TB := mh_tb1 (mh_t3 (List.mem_of_getElem? (i := 20) rfl)) rfl
theorem wd_502 : Cond.instanceMethod yJ5_appendNull_278bc ∈ mh_TB := mh_tb1 (mh_t3 (List.mem_of_getElem? (i := 22) rfl)) rfl
theorem wd_503 : Cond.code yJ5_appendNull_278bc cJ5_appendNull_278bc 3 (some (.object RJ5)) ∈ mh_TB := mh_tb1 (mh_t3 (List.mem_of_getElem? (i := 23) rfl)) rfl
theorem wd_504 : Cond.methodLink RJ5 100 yJ5_ensureCapacityInternal_d00df ∈ mh_TB := mh_tb1 (mh_t3 (List.mem_of_getElem? (i := 24) rfl)) rfl
theorem wd_506 : Cond.instanceMethod yJ5_ensureCapacityInternal_d00df ∈ mh_TB := mh_tb1 (mh_t3 (List.mem_of_getElem? (i := 26) rfl)) rfl
theorem wd_507 : Cond.code yJ5_ensureCapacityInternal_d00df cJ5_ensureCapacityInternal_d00df 3 none ∈ mh_TB := mh_tb1 (mh_t3 (List.mem_of_getElem? (i := 27) rfl)) rfl
theorem wd_508 : Cond.methodLink RJ5 104 yJ5_newCapacity_0f7a4 ∈ mh_TB := mh_tb1 (mh_t3 (List.mem_of_getElem? (i := 28) rfl)) rfl
theorem wd_510 : Cond.instanceMethod yJ5_newCapacity_0f7a4 ∈ mh_TB := mh_tb1 (mh_t3 (List.mem_of_getElem? (i := 30) rfl)) rfl
theorem wd_511 : Cond.code yJ5_newCapacity_0f7a4 cJ5_newCapacity_0f7a4 6 (some .int) ∈ mh_TB := mh_tb1 (mh_t3 (List.mem_of_getElem? (i := 31) rfl)) rfl
theorem wd_512 : Cond.methodLink RJ5 114 yJ8_newLength_cabcc ∈ mh_TB := mh_tb1 (mh_t3 (List.mem_of_getElem? (i := 32) rfl)) rfl
theorem wd_513 : Cond.static yJ8_newLength_cabcc ∈ mh_TB := mh_tb1 (mh_t3 (List.mem_of_getElem? (i := 33) rfl)) rfl
theorem wd_514 : Cond.code yJ8_newLength_cabcc cJ8_newLength_cabcc 4 (some .int) ∈ mh_TB := mh_tb1 (mh_t3 (List.mem_of_getElem? (i := 34) rfl)) rfl
theorem wd_515 : Cond.methodLink RJ8 194 yJ9_max_7cf53 ∈ mh_TB := mh_tb1 (mh_t3 (List.mem_of_getElem? (i := 35) rfl)) rfl
theorem wd_516 : Cond.constant RJ8 200 (2147483639) ∈ mh_TB := mh_tb1 (mh_t3 (List.mem_of_getElem? (i := 36) rfl)) rfl
theorem wd_517 : Cond.methodLink RJ8 201 yJ8_hugeLength_7cf53 ∈ mh_TB := mh_tb1 (mh_t3 (List.mem_of_getElem? (i := 37) rfl)) rfl
theorem wd_518 : Cond.static yJ8_hugeLength_7cf53 ∈ mh_TB := mh_tb1 (mh_t3 (List.mem_of_getElem? (i := 38) rfl)) rfl
theorem wd_519 : Cond.code yJ8_hugeLength_7cf53 cJ8_hugeLength_7cf53 3 (some .int) ∈ mh_TB := mh_tb1 (mh_t3 (List.mem_of_getElem? (i := 39) rfl)) rfl
theorem wd_520 : Cond.constant RJ5 39 (2147483647) ∈ mh_TB := mh_tb1 (mh_t3 (List.mem_of_getElem? (i := 40) rfl)) rfl
theorem wd_521 : Cond.methodLink RJ5 108 yJ7_copyOf_9075b ∈ mh_TB := mh_tb1 (mh_t3 (List.mem_of_getElem? (i := 41) rfl)) rfl
theorem wd_522 : Cond.static yJ7_copyOf_9075b ∈ mh_TB := mh_tb1 (mh_t3 (List.mem_of_getElem? (i := 42) rfl)) rfl
theorem wd_523 : Cond.code yJ7_copyOf_9075b cJ7_copyOf_9075b 3 (some (.array .byte)) ∈ mh_TB := mh_tb1 (mh_t3 (List.mem_of_getElem? (i := 43) rfl)) rfl
theorem wd_525 : Cond.sameMethod "[B" "java/lang/Object" "clone" "()Ljava/lang/Object;" ∈ mh_TB := mh_tb1 (mh_t3 (List.mem_of_getElem? (i := 45) rfl)) rfl
theorem wd_530 : Cond.classLink RJ7 311 "[B" ∈ mh_TB := mh_tb1 (mh_t3 (List.mem_of_getElem? (i := 50) rfl)) rfl
theorem wd_531 : Cond.methodLink RJ7 304 yJ9_min_7cf53 ∈ mh_TB := mh_tb1 (mh_t3 (List.mem_of_getElem? (i := 51) rfl)) rfl
theorem wd_532 : Cond.methodLink RJ7 150 arraycopyName ∈ mh_TB := mh_tb1 (mh_t3 (List.mem_of_getElem? (i := 52) rfl)) rfl
theorem wd_533 : Cond.static arraycopyName ∈ mh_TB := mh_tb1 (mh_t3 (List.mem_of_getElem? (i := 53) rfl)) rfl
theorem wd_534 : Cond.native arraycopyName ∈ mh_TB := mh_tb1 (mh_t3 (List.mem_of_getElem? (i := 54) rfl)) rfl
theorem wd_535 : Cond.methodLink RJ5 83 yJ5_isLatin1_aae02 ∈ mh_TB := mh_tb1 (mh_t3 (List.mem_of_getElem? (i := 55) rfl)) rfl
theorem wd_536 : Cond.instanceMethod yJ5_isLatin1_aae02 ∈ mh_TB := mh_tb1 (mh_t3 (List.mem_of_getElem? (i := 56) rfl)) rfl
theorem wd_537 : Cond.sameMethod RJ5 RJ5 "isLatin1" "()Z" ∈ mh_TB := mh_tb1 (mh_t3 (List.mem_of_getElem? (i := 57) rfl)) rfl
theorem wd_538 : Cond.selects RJ4 yJ5_isLatin1_aae02 yJ5_isLatin1_aae02 ∈ mh_TB := mh_tb1 (mh_t3 (List.mem_of_getElem? (i := 58) rfl)) rfl
theorem wd_539 : Cond.code yJ5_isLatin1_aae02 cJ5_isLatin1_aae02 1 (some .boolean) ∈ mh_TB := mh_tb1 (mh_t3 (List.mem_of_getElem? (i := 59) rfl)) rfl
theorem wd_540 : Cond.methodLink RJ5 226 yJ2_putCharsAt_cd4e5 ∈ mh_TB := mh_tb1 (mh_t3 (List.mem_of_getElem? (i := 60) rfl)) rfl
theorem wd_541 : Cond.static yJ2_putCharsAt_cd4e5 ∈ mh_TB := mh_tb1 (mh_t3 (List.mem_of_getElem? (i := 61) rfl)) rfl
theorem wd_542 : Cond.code yJ2_putCharsAt_cd4e5 cJ2_putCharsAt_cd4e5 7 (some .int) ∈ mh_TB := mh_tb1 (mh_t3 (List.mem_of_getElem? (i := 62) rfl)) rfl
theorem wd_543 : Cond.methodLink RJ2 96 yJ2_checkBoundsBeginEnd_d044e ∈ mh_TB := mh_tb1 (mh_t3 (List.mem_of_getElem? (i := 63) rfl)) rfl
theorem wd_544 : Cond.static yJ2_checkBoundsBeginEnd_d044e ∈ mh_TB := mh_tb1 (mh_t3 (List.mem_of_getElem? (i := 64) rfl)) rfl
theorem wd_545 : Cond.code yJ2_checkBoundsBeginEnd_d044e cJ2_checkBoundsBeginEnd_d044e 3 none ∈ mh_TB := mh_tb1 (mh_t3 (List.mem_of_getElem? (i := 65) rfl)) rfl
theorem wd_546 : Cond.methodLink RJ2 241 yJ0_checkBoundsBeginEnd_23922 ∈ mh_TB := mh_tb1 (mh_t3 (List.mem_of_getElem? (i := 66) rfl)) rfl
theorem wd_547 : Cond.static yJ0_checkBoundsBeginEnd_23922 ∈ mh_TB := mh_tb1 (mh_t3 (List.mem_of_getElem? (i := 67) rfl)) rfl
theorem wd_548 : Cond.code yJ0_checkBoundsBeginEnd_23922 cJ0_checkBoundsBeginEnd_23922 3 none ∈ mh_TB := mh_tb1 (mh_t3 (List.mem_of_getElem? (i := 68) rfl)) rfl
theorem wd_549 : Cond.methodLink RJ0 1062 yJ3_checkFromToIndex_8c36e ∈ mh_TB := mh_tb1 (mh_t3 (List.mem_of_getElem? (i := 69) rfl)) rfl
theorem wd_550 : Cond.static yJ3_checkFromToIndex_8c36e ∈ mh_TB := mh_tb1 (mh_t3 (List.mem_of_getElem? (i := 70) rfl)) rfl
theorem wd_551 : Cond.code yJ3_checkFromToIndex_8c36e cJ3_checkFromToIndex_8c36e 4 (some .int) ∈ mh_TB := mh_tb1 (mh_t3 (List.mem_of_getElem? (i := 71) rfl)) rfl
theorem wd_552 : Cond.methodLink RJ2 111 yJ2_putChar_b72d1 ∈ mh_TB := mh_tb1 (mh_t3 (List.mem_of_getElem? (i := 72) rfl)) rfl
theorem wd_553 : Cond.static yJ2_putChar_b72d1 ∈ mh_TB := mh_tb1 (mh_t3 (List.mem_of_getElem? (i := 73) rfl)) rfl
theorem wd_554 : Cond.code yJ2_putChar_b72d1 cJ2_putChar_b72d1 3 none ∈ mh_TB := mh_tb1 (mh_t3 (List.mem_of_getElem? (i := 74) rfl)) rfl
theorem wd_555 : Cond.methodLink RJ5 32 yJ0_length_8abf5 ∈ mh_TB := mh_tb1 (mh_t3 (List.mem_of_getElem? (i := 75) rfl)) rfl
theorem wd_556 : Cond.methodLink RJ5 208 yJ5_putStringAt_47b60 ∈ mh_TB := mh_tb1 (mh_t3 (List.mem_of_getElem? (i := 76) rfl)) rfl
theorem wd_558 : Cond.instanceMethod yJ5_putStringAt_47b60 ∈ mh_TB := mh_tb1 (mh_t3 (List.mem_of_getElem? (i := 78) rfl)) rfl
theorem wd_559 : Cond.code yJ5_putStringAt_47b60 cJ5_putStringAt_47b60 3 none ∈ mh_TB := mh_tb1 (mh_t3 (List.mem_of_getElem? (i := 79) rfl)) rfl
theorem wd_560 : Cond.methodLink RJ5 397 yJ5_inflateIfNeededFor_a7421 ∈ mh_TB := mh_tb1 (mh_t3 (List.mem_of_getElem? (i := 80) rfl)) rfl
theorem wd_562 : Cond.instanceMethod yJ5_inflateIfNeededFor_a7421 ∈ mh_TB := mh_tb1 (mh_t3 (List.mem_of_getElem? (i := 82) rfl)) rfl
theorem wd_563 : Cond.code yJ5_inflateIfNeededFor_a7421 cJ5_inflateIfNeededFor_a7421 2 none ∈ mh_TB := mh_tb1 (mh_t3 (List.mem_of_getElem? (i := 83) rfl)) rfl
theorem wd_564 : Cond.methodLink RJ5 40 yJ0_coder_7d493 ∈ mh_TB := mh_tb1 (mh_t3 (List.mem_of_getElem? (i := 84) rfl)) rfl
theorem wd_565 : Cond.methodLink RJ5 195 yJ5_inflate_da8c8 ∈ mh_TB := mh_tb1 (mh_t3 (List.mem_of_getElem? (i := 85) rfl)) rfl
theorem wd_567 : Cond.instanceMethod yJ5_inflate_da8c8 ∈ mh_TB := mh_tb1 (mh_t3 (List.mem_of_getElem? (i := 87) rfl)) rfl
theorem wd_568 : Cond.code yJ5_inflate_da8c8 cJ5_inflate_da8c8 2 none ∈ mh_TB := mh_tb1 (mh_t3 (List.mem_of_getElem? (i := 88) rfl)) rfl
theorem wd_569 : Cond.methodLink RJ5 125 yJ1_inflate_0e8fd ∈ mh_TB := mh_tb1 (mh_t3 (List.mem_of_getElem? (i := 89) rfl)) rfl
theorem wd_570 : Cond.static yJ1_inflate_0e8fd ∈ mh_TB := mh_tb1 (mh_t3 (List.mem_of_getElem? (i := 90) rfl)) rfl
theorem wd_571 : Cond.code yJ1_inflate_0e8fd cJ1_inflate_0e8fd 5 none ∈ mh_TB := mh_tb1 (mh_t3 (List.mem_of_getElem? (i := 91) rfl)) rfl
theorem wd_572 : Cond.methodLink RJ1 240 yJ2_inflate_0e8fd ∈ mh_TB := mh_tb1 (mh_t3 (List.mem_of_getElem? (i := 92) rfl)) rfl
theorem wd_573 : Cond.static yJ2_inflate_0e8fd ∈ mh_TB := mh_tb1 (mh_t3 (List.mem_of_getElem? (i := 93) rfl)) rfl
theorem wd_574 : Cond.code yJ2_inflate_0e8fd cJ2_inflate_0e8fd 6 none ∈ mh_TB := mh_tb1 (mh_t3 (List.mem_of_getElem? (i := 94) rfl)) rfl
theorem wd_575 : Cond.methodLink RJ2 173 yJ2_checkBoundsOffCount_d044e ∈ mh_TB := mh_tb1 (mh_t3 (List.mem_of_getElem? (i := 95) rfl)) rfl
theorem wd_576 : Cond.static yJ2_checkBoundsOffCount_d044e ∈ mh_TB := mh_tb1 (mh_t3 (List.mem_of_getElem? (i := 96) rfl)) rfl
theorem wd_577 : Cond.code yJ2_checkBoundsOffCount_d044e cJ2_checkBoundsOffCount_d044e 3 none ∈ mh_TB := mh_tb1 (mh_t3 (List.mem_of_getElem? (i := 97) rfl)) rfl
theorem wd_578 : Cond.methodLink RJ2 419 yJ0_checkBoundsOffCount_cabcc ∈ mh_TB := mh_tb1 (mh_t3 (List.mem_of_getElem? (i := 98) rfl)) rfl
theorem wd_579 : Cond.static yJ0_checkBoundsOffCount_cabcc ∈ mh_TB := mh_tb1 (mh_t3 (List.mem_of_getElem? (i := 99) rfl)) rfl
theorem wd_580 : Cond.code yJ0_checkBoundsOffCount_cabcc cJ0_checkBoundsOffCount_cabcc 3 (some .int) ∈ mh_TB := mh_tb1 (mh_t3 (List.mem_of_getElem? (i := 100) rfl)) rfl
theorem wd_581 : Cond.methodLink RJ0 1065 yJ3_checkFromIndexSize_8c36e ∈ mh_TB := mh_tb1 (mh_t3 (List.mem_of_getElem? (i := 101) rfl)) rfl
theorem wd_582 : Cond.static yJ3_checkFromIndexSize_8c36e ∈ mh_TB := mh_tb1 (mh_t3 (List.mem_of_getElem? (i := 102) rfl)) rfl
theorem wd_583 : Cond.code yJ3_checkFromIndexSize_8c36e cJ3_checkFromIndexSize_8c36e 4 (some .int) ∈ mh_TB := mh_tb1 (mh_t3 (List.mem_of_getElem? (i := 103) rfl)) rfl
theorem wd_584 : Cond.methodLink RJ5 399 yJ0_getBytes_840e7 ∈ mh_TB := mh_tb1 (mh_t3 (List.mem_of_getElem? (i := 104) rfl)) rfl
theorem wd_585 : Cond.instanceMethod yJ0_getBytes_840e7 ∈ mh_TB := mh_tb1 (mh_t3 (List.mem_of_getElem? (i := 105) rfl)) rfl
theorem wd_586 : Cond.selects RJ0 yJ0_getBytes_840e7 yJ0_getBytes_840e7 ∈ mh_TB := mh_tb1 (mh_t3 (List.mem_of_getElem? (i := 106) rfl)) rfl
theorem wd_587 : Cond.code yJ0_getBytes_840e7 cJ0_getBytes_840e7 4 none ∈ mh_TB := mh_tb1 (mh_t3 (List.mem_of_getElem? (i := 107) rfl)) rfl
theorem wd_588 : Cond.methodLink RJ0 212 arraycopyName ∈ mh_TB := mh_tb1 (mh_t3 (List.mem_of_getElem? (i := 108) rfl)) rfl
theorem wd_589 : Cond.methodLink RJ0 106 yJ1_inflate_0e8fd ∈ mh_TB := mh_tb1 (mh_t3 (List.mem_of_getElem? (i := 109) rfl)) rfl
theorem wd_590 : Cond.methodLink RL 61 yJ4_append_bf812 ∈ mh_TB := mh_tb1 (mh_t3 (List.mem_of_getElem? (i := 110) rfl)) rfl
theorem wd_591 : Cond.instanceMethod yJ4_append_bf812 ∈ mh_TB := mh_tb1 (mh_t3 (List.mem_of_getElem? (i := 111) rfl)) rfl
theorem wd_592 : Cond.selects RJ4 yJ4_append_bf812 yJ4_append_bf812 ∈ mh_TB := mh_tb1 (mh_t3 (List.mem_of_getElem? (i := 112) rfl)) rfl
theorem wd_593 : Cond.code yJ4_append_bf812 cJ4_append_bf812 2 (some (.object RJ4)) ∈ mh_TB := mh_tb1 (mh_t3 (List.mem_of_getElem? (i := 113) rfl)) rfl
theorem wd_594 : Cond.methodLink RJ4 53 yJ5_append_c97b9 ∈ mh_TB := mh_tb1 (mh_t3 (List.mem_of_getElem? (i := 114) rfl)) rfl
theorem wd_595 : Cond.instanceMethod yJ5_append_c97b9 ∈ mh_TB := mh_tb1 (mh_t3 (List.mem_of_getElem? (i := 115) rfl)) rfl
theorem wd_596 : Cond.code yJ5_append_c97b9 cJ5_append_c97b9 4 (some (.object RJ5)) ∈ mh_TB := mh_tb1 (mh_t3 (List.mem_of_getElem? (i := 116) rfl)) rfl
theorem wd_597 : Cond.methodLink RJ5 245 yJ6_stringSize_0f7a4 ∈ mh_TB := mh_tb1 (mh_t3 (List.mem_of_getElem? (i := 117) rfl)) rfl
theorem wd_598 : Cond.static yJ6_stringSize_0f7a4 ∈ mh_TB := mh_tb1 (mh_t3 (List.mem_of_getElem? (i := 118) rfl)) rfl
theorem wd_599 : Cond.code yJ6_stringSize_0f7a4 cJ6_stringSize_0f7a4 4 (some .int) ∈ mh_TB := mh_tb1 (mh_t3 (List.mem_of_getElem? (i := 119) rfl)) rfl
theorem wd_600 : Cond.methodLink RJ5 248 yJ6_getChars_ba4f3 ∈ mh_TB := mh_tb1 (mh_t3 (List.mem_of_getElem? (i := 120) rfl)) rfl
theorem wd_601 : Cond.static yJ6_getChars_ba4f3 ∈ mh_TB := mh_tb1 (mh_t3 (List.mem_of_getElem? (i := 121) rfl)) rfl
theorem wd_602 : Cond.code yJ6_getChars_ba4f3 cJ6_getChars_ba4f3 7 (some .int) ∈ mh_TB := mh_tb1 (mh_t3 (List.mem_of_getElem? (i := 122) rfl)) rfl
theorem wd_603 : Cond.fieldLink RJ6 83 RJ6 "DigitOnes" "[B" ∈ mh_TB := mh_tb1 (mh_t3 (List.mem_of_getElem? (i := 123) rfl)) rfl
theorem wd_605 : Cond.fieldLink RJ6 87 RJ6 "DigitTens" "[B" ∈ mh_TB := mh_tb1 (mh_t3 (List.mem_of_getElem? (i := 125) rfl)) rfl
theorem wd_607 : Cond.methodLink RJ5 251 yJ2_getChars_46870 ∈ mh_TB := mh_tb1 (mh_t3 (List.mem_of_getElem? (i := 127) rfl)) rfl
theorem wd_608 : Cond.static yJ2_getChars_46870 ∈ mh_TB := mh_tb1 (mh_t3 (List.mem_of_getElem? (i := 128) rfl)) rfl
theorem wd_609 : Cond.code yJ2_getChars_46870 cJ2_getChars_46870 5 (some .int) ∈ mh_TB := mh_tb1 (mh_t3 (List.mem_of_getElem? (i := 129) rfl)) rfl
theorem wd_610 : Cond.methodLink RJ2 393 yJ2_getChars_ba4f3 ∈ mh_TB := mh_tb1 (mh_t3 (List.mem_of_getElem? (i := 130) rfl)) rfl
theorem wd_611 : Cond.static yJ2_getChars_ba4f3 ∈ mh_TB := mh_tb1 (mh_t3 (List.mem_of_getElem? (i := 131) rfl)) rfl
theorem wd_612 : Cond.code yJ2_getChars_ba4f3 cJ2_getChars_ba4f3 7 (some .int) ∈ mh_TB := mh_tb1 (mh_t3 (List.mem_of_getElem? (i := 132) rfl)) rfl
theorem wd_613 : Cond.fieldLink RJ2 403 RJ6 "DigitOnes" "[B" ∈ mh_TB := mh_tb1 (mh_t3 (List.mem_of_getElem? (i := 133) rfl)) rfl
theorem wd_614 : Cond.fieldLink RJ2 407 RJ6 "DigitTens" "[B" ∈ mh_TB := mh_tb1 (mh_t3 (List.mem_of_getElem? (i := 134) rfl)) rfl
theorem wd_617 : Cond.methodLink RL 68 yJ4_toString_0e30d ∈ mh_TB := mh_tb1 (mh_t3 (List.mem_of_getElem? (i := 137) rfl)) rfl
theorem wd_618 : Cond.instanceMethod yJ4_toString_0e30d ∈ mh_TB := mh_tb1 (mh_t3 (List.mem_of_getElem? (i := 138) rfl)) rfl
theorem wd_619 : Cond.selects RJ4 yJ4_toString_0e30d yJ4_toString_0e30d ∈ mh_TB := mh_tb1 (mh_t3 (List.mem_of_getElem? (i := 139) rfl)) rfl
theorem wd_620 : Cond.code yJ4_toString_0e30d cJ4_toString_0e30d 1 (some (.object RJ0)) ∈ mh_TB := mh_tb1 (mh_t3 (List.mem_of_getElem? (i := 140) rfl)) rfl
theorem wd_621 : Cond.classLink RJ4 18 RJ0 ∈ mh_TB := mh_tb1 (mh_t3 (List.mem_of_getElem? (i := 141) rfl)) rfl
theorem wd_622 : Cond.instantiable RJ0 4 ∈ mh_TB := mh_tb1 (mh_t3 (List.mem_of_getElem? (i := 142) rfl)) rfl
theorem wd_623 : Cond.methodLink RJ4 137 yJ0_init_81219 ∈ mh_TB := mh_tb1 (mh_t3 (List.mem_of_getElem? (i := 143) rfl)) rfl
theorem wd_624 : Cond.instanceMethod yJ0_init_81219 ∈ mh_TB := mh_tb1 (mh_t3 (List.mem_of_getElem? (i := 144) rfl)) rfl
theorem wd_625 : Cond.code yJ0_init_81219 cJ0_init_81219 2 none ∈ mh_TB := mh_tb1 (mh_t3 (List.mem_of_getElem? (i := 145) rfl)) rfl
theorem wd_626 : Cond.methodLink RJ0 489 yJ0_init_db425 ∈ mh_TB := mh_tb1 (mh_t3 (List.mem_of_getElem? (i := 146) rfl)) rfl
theorem wd_627 : Cond.instanceMethod yJ0_init_db425 ∈ mh_TB := mh_tb1 (mh_t3 (List.mem_of_getElem? (i := 147) rfl)) rfl
theorem wd_628 : Cond.code yJ0_init_db425 cJ0_init_db425 5 none ∈ mh_TB := mh_tb1 (mh_t3 (List.mem_of_getElem? (i := 148) rfl)) rfl
theorem wd_629 : Cond.methodLink RJ0 1 Lib.objectInit ∈ mh_TB := mh_tb1 (mh_t3 (List.mem_of_getElem? (i := 149) rfl)) rfl
theorem wd_630 : Cond.methodLink RJ0 552 yJ5_getValue_6d5f1 ∈ mh_TB := mh_tb1 (mh_t3 (List.mem_of_getElem? (i := 150) rfl)) rfl
theorem wd_631 : Cond.instanceMethod yJ5_getValue_6d5f1 ∈ mh_TB := mh_tb1 (mh_t3 (List.mem_of_getElem? (i := 151) rfl)) rfl
theorem wd_632 : Cond.sameMethod RJ5 RJ5 "getValue" "()[B" ∈ mh_TB := mh_tb1 (mh_t3 (List.mem_of_getElem? (i := 152) rfl)) rfl
theorem wd_633 : Cond.selects RJ4 yJ5_getValue_6d5f1 yJ5_getValue_6d5f1 ∈ mh_TB := mh_tb1 (mh_t3 (List.mem_of_getElem? (i := 153) rfl)) rfl
theorem wd_634 : Cond.code yJ5_getValue_6d5f1 cJ5_getValue_6d5f1 1 (some (.array .byte)) ∈ mh_TB := mh_tb1 (mh_t3 (List.mem_of_getElem? (i := 154) rfl)) rfl
theorem wd_635 : Cond.methodLink RJ0 549 yJ5_length_8abf5 ∈ mh_TB := mh_tb1 (mh_t3 (List.mem_of_getElem? (i := 155) rfl)) rfl
theorem wd_636 : Cond.instanceMethod yJ5_length_8abf5 ∈ mh_TB := mh_tb1 (mh_t3 (List.mem_of_getElem? (i := 156) rfl)) rfl
theorem wd_637 : Cond.sameMethod RJ5 RJ5 "length" "()I" ∈ mh_TB := mh_tb1 (mh_t3 (List.mem_of_getElem? (i := 157) rfl)) rfl
theorem wd_638 : Cond.selects RJ4 yJ5_length_8abf5 yJ4_length_8abf5 ∈ mh_TB := mh_tb1 (mh_t3 (List.mem_of_getElem? (i := 158) rfl)) rfl
theorem wd_639 : Cond.instanceMethod yJ4_length_8abf5 ∈ mh_TB := mh_tb1 (mh_t3 (List.mem_of_getElem? (i := 159) rfl)) rfl
theorem wd_640 : Cond.code yJ4_length_8abf5 cJ4_length_8abf5 1 (some .int) ∈ mh_TB := mh_tb1 (mh_t3 (List.mem_of_getElem? (i := 160) rfl)) rfl
theorem wd_641 : Cond.methodLink RJ4 343 yJ5_length_8abf5 ∈ mh_TB := mh_tb1 (mh_t3 (List.mem_of_getElem? (i := 161) rfl)) rfl
theorem wd_642 : Cond.code yJ5_length_8abf5 cJ5_length_8abf5 1 (some .int) ∈ mh_TB := mh_tb1 (mh_t3 (List.mem_of_getElem? (i := 162) rfl)) rfl
theorem wd_643 : Cond.methodLink RJ0 1047 yJ5_isLatin1_aae02 ∈ mh_TB := mh_tb1 (mh_t3 (List.mem_of_getElem? (i := 163) rfl)) rfl
theorem wd_644 : Cond.methodLink RJ0 54 yJ7_copyOfRange_39247 ∈ mh_TB := mh_tb1 (mh_t3 (List.mem_of_getElem? (i := 164) rfl)) rfl
theorem wd_645 : Cond.static yJ7_copyOfRange_39247 ∈ mh_TB := mh_tb1 (mh_t3 (List.mem_of_getElem? (i := 165) rfl)) rfl
theorem wd_646 : Cond.code yJ7_copyOfRange_39247 cJ7_copyOfRange_39247 3 (some (.array .byte)) ∈ mh_TB := mh_tb1 (mh_t3 (List.mem_of_getElem? (i := 166) rfl)) rfl
theorem wd_647 : Cond.methodLink RJ7 339 yJ7_copyOfRangeByte_39247 ∈ mh_TB := mh_tb1 (mh_t3 (List.mem_of_getElem? (i := 167) rfl)) rfl
theorem wd_648 : Cond.static yJ7_copyOfRangeByte_39247 ∈ mh_TB := mh_tb1 (mh_t3 (List.mem_of_getElem? (i := 168) rfl)) rfl
theorem wd_649 : Cond.code yJ7_copyOfRangeByte_39247 cJ7_copyOfRangeByte_39247 5 (some (.array .byte)) ∈ mh_TB := mh_tb1 (mh_t3 (List.mem_of_getElem? (i := 169) rfl)) rfl
theorem wd_650 : Cond.methodLink RJ7 343 yJ7_checkLength_df160 ∈ mh_TB := mh_tb1 (mh_t3 (List.mem_of_getElem? (i := 170) rfl)) rfl
theorem wd_651 : Cond.static yJ7_checkLength_df160 ∈ mh_TB := mh_tb1 (mh_t3 (List.mem_of_getElem? (i := 171) rfl)) rfl
theorem wd_652 : Cond.code yJ7_checkLength_df160 cJ7_checkLength_df160 2 none ∈ mh_TB := mh_tb1 (mh_t3 (List.mem_of_getElem? (i := 172) rfl)) rfl
theorem wd_653 : Cond.methodLink RJ0 1051 yJ2_compress_39247 ∈ mh_TB := mh_tb1 (mh_t3 (List.mem_of_getElem? (i := 173) rfl)) rfl
theorem wd_654 : Cond.static yJ2_compress_39247 ∈ mh_TB := mh_tb1 (mh_t3 (List.mem_of_getElem? (i := 174) rfl)) rfl
theorem wd_655 : Cond.code yJ2_compress_39247 cJ2_compress_39247 6 (some (.array .byte)) ∈ mh_TB := mh_tb1 (mh_t3 (List.mem_of_getElem? (i := 175) rfl)) rfl
theorem wd_656 : Cond.methodLink RJ2 123 yJ2_compress_5af95 ∈ mh_TB := mh_tb1 (mh_t3 (List.mem_of_getElem? (i := 176) rfl)) rfl
theorem wd_657 : Cond.static yJ2_compress_5af95 ∈ mh_TB := mh_tb1 (mh_t3 (List.mem_of_getElem? (i := 177) rfl)) rfl
theorem wd_658 : Cond.code yJ2_compress_5af95 cJ2_compress_5af95 7 (some .int) ∈ mh_TB := mh_tb1 (mh_t3 (List.mem_of_getElem? (i := 178) rfl)) rfl
theorem wd_659 : Cond.methodLink RJ2 126 yJ7_copyOfRange_39247 ∈ mh_TB := mh_tb1 (mh_t3 (List.mem_of_getElem? (i := 179) rfl)) rfl
theorem wd_660 : Cond.methodLink RJ0 47 yJ2_coderFromArrayLen_85cad ∈ mh_TB := mh_tb1 (mh_t3 (List.mem_of_getElem? (i := 180) rfl)) rfl
theorem wd_661 : Cond.static yJ2_coderFromArrayLen_85cad ∈ mh_TB := mh_tb1 (mh_t3 (List.mem_of_getElem? (i := 181) rfl)) rfl
theorem wd_662 : Cond.code yJ2_coderFromArrayLen_85cad cJ2_coderFromArrayLen_85cad 2 (some .byte) ∈ mh_TB := mh_tb1 (mh_t3 (List.mem_of_getElem? (i := 182) rfl)) rfl
theorem wd_663 : Cond.fieldLink RJ0 9 RJ0 "value" "[B" ∈ mh_TB := mh_tb1 (mh_t3 (List.mem_of_getElem? (i := 183) rfl)) rfl
theorem wd_664 : Cond.fieldLink RJ0 15 RJ0 "coder" "B" ∈ mh_TB := mh_tb1 (mh_t3 (List.mem_of_getElem? (i := 184) rfl)) rfl
theorem wd_673 : Cond.superclass RJ0 "java/lang/Object" ∈ mh_TB := mh_tb1 (mh_t3 (List.mem_of_getElem? (i := 193) rfl)) rfl
theorem wd_674 : Cond.methodLink RL 72 yL_text ∈ mh_TB := mh_tb1 (mh_t3 (List.mem_of_getElem? (i := 194) rfl)) rfl
theorem wd_675 : Cond.static yL_text ∈ mh_TB := mh_tb1 (mh_t3 (List.mem_of_getElem? (i := 195) rfl)) rfl
theorem wd_676 : Cond.code yL_text cL_text 3 none ∈ mh_TB := mh_tb1 (mh_t3 (List.mem_of_getElem? (i := 196) rfl)) rfl
theorem wd_677 : Cond.methodLink RL 7 yJ0_length_8abf5 ∈ mh_TB := mh_tb1 (mh_t3 (List.mem_of_getElem? (i := 197) rfl)) rfl
theorem wd_678 : Cond.methodLink RL 13 yJ0_charAt_5068e ∈ mh_TB := mh_tb1 (mh_t3 (List.mem_of_getElem? (i := 198) rfl)) rfl
theorem wd_679 : Cond.methodLink RL 17 yX5_feed ∈ mh_TB := mh_tb1 (mh_t3 (List.mem_of_getElem? (i := 199) rfl)) rfl
theorem wd_680 : Cond.instanceMethod yX5_feed ∈ mh_TB := mh_tb1 (mh_t3 (List.mem_of_getElem? (i := 200) rfl)) rfl
theorem wd_681 : Cond.selects RX5 yX5_feed yX5_feed ∈ mh_TB := mh_tb1 (mh_t3 (List.mem_of_getElem? (i := 201) rfl)) rfl
theorem wd_682 : Cond.code yX5_feed cX5_feed 8 (some .int) ∈ mh_TB := mh_tb1 (mh_t3 (List.mem_of_getElem? (i := 202) rfl)) rfl
theorem wd_683 : Cond.methodLink RX5 93 yX5_isByte ∈ mh_TB := mh_tb1 (mh_t3 (List.mem_of_getElem? (i := 203) rfl)) rfl
theorem wd_684 : Cond.static yX5_isByte ∈ mh_TB := mh_tb1 (mh_t3 (List.mem_of_getElem? (i := 204) rfl)) rfl
theorem wd_685 : Cond.code yX5_isByte cX5_isByte 1 (some .boolean) ∈ mh_TB := mh_tb1 (mh_t3 (List.mem_of_getElem? (i := 205) rfl)) rfl
theorem wd_686 : Cond.methodLink RL 76 yX5_text ∈ mh_TB := mh_tb1 (mh_t3 (List.mem_of_getElem? (i := 206) rfl)) rfl
theorem wd_687 : Cond.instanceMethod yX5_text ∈ mh_TB := mh_tb1 (mh_t3 (List.mem_of_getElem? (i := 207) rfl)) rfl
theorem wd_688 : Cond.selects RX5 yX5_text yX5_text ∈ mh_TB := mh_tb1 (mh_t3 (List.mem_of_getElem? (i := 208) rfl)) rfl
theorem wd_689 : Cond.code yX5_text cX5_text 1 (some .int) ∈ mh_TB := mh_tb1 (mh_t3 (List.mem_of_getElem? (i := 209) rfl)) rfl
theorem wd_690 : Cond.methodLink RL 78 yX5_force ∈ mh_TB := mh_tb1 (mh_t3 (List.mem_of_getElem? (i := 210) rfl)) rfl
theorem wd_691 : Cond.instanceMethod yX5_force ∈ mh_TB := mh_tb1 (mh_t3 (List.mem_of_getElem? (i := 211) rfl)) rfl
theorem wd_692 : Cond.selects RX5 yX5_force yX5_force ∈ mh_TB := mh_tb1 (mh_t3 (List.mem_of_getElem? (i := 212) rfl)) rfl
theorem wd_693 : Cond.code yX5_force cX5_force 3 (some .int) ∈ mh_TB := mh_tb1 (mh_t3 (List.mem_of_getElem? (i := 213) rfl)) rfl
theorem wd_694 : Cond.methodLink RL 96 yL_asks ∈ mh_TB := mh_tb1 (mh_t3 (List.mem_of_getElem? (i := 214) rfl)) rfl
theorem wd_695 : Cond.static yL_asks ∈ mh_TB := mh_tb1 (mh_t3 (List.mem_of_getElem? (i := 215) rfl)) rfl
theorem wd_696 : Cond.code yL_asks cL_asks 6 (some .int) ∈ mh_TB := mh_tb1 (mh_t3 (List.mem_of_getElem? (i := 216) rfl)) rfl
theorem wd_697 : Cond.methodLink RL 90 yL_face ∈ mh_TB := mh_tb1 (mh_t3 (List.mem_of_getElem? (i := 217) rfl)) rfl
theorem wd_698 : Cond.static yL_face ∈ mh_TB := mh_tb1 (mh_t3 (List.mem_of_getElem? (i := 218) rfl)) rfl
theorem wd_699 : Cond.code yL_face cL_face 2 (some .int) ∈ mh_TB := mh_tb1 (mh_t3 (List.mem_of_getElem? (i := 219) rfl)) rfl
theorem wd_700 : Cond.methodLink RL 93 yL_held ∈ mh_TB := mh_tb1 (mh_t3 (List.mem_of_getElem? (i := 220) rfl)) rfl
theorem wd_701 : Cond.static yL_held ∈ mh_TB := mh_tb1 (mh_t3 (List.mem_of_getElem? (i := 221) rfl)) rfl
theorem wd_702 : Cond.code yL_held cL_held 2 (some .int) ∈ mh_TB := mh_tb1 (mh_t3 (List.mem_of_getElem? (i := 222) rfl)) rfl
theorem wd_703 : Cond.methodLink RL 82 yJ9_min_7cf53 ∈ mh_TB := mh_tb1 (mh_t3 (List.mem_of_getElem? (i := 223) rfl)) rfl
theorem wd_704 : Cond.methodLink RL 87 yJ9_max_7cf53 ∈ mh_TB := mh_tb1 (mh_t3 (List.mem_of_getElem? (i := 224) rfl)) rfl
theorem wd_705 : Cond.methodLink RL 123 yL_run ∈ mh_TB := mh_tb1 (mh_t3 (List.mem_of_getElem? (i := 225) rfl)) rfl
theorem wd_706 : Cond.static yL_run ∈ mh_TB := mh_tb1 (mh_t3 (List.mem_of_getElem? (i := 226) rfl)) rfl
theorem wd_707 : Cond.code yL_run cL_run 11 none ∈ mh_TB := mh_tb1 (mh_t3 (List.mem_of_getElem? (i := 227) rfl)) rfl
theorem wd_708 : Cond.constantLong RL 100 (-1) ∈ mh_TB := mh_tb1 (mh_t3 (List.mem_of_getElem? (i := 228) rfl)) rfl
theorem wd_709 : Cond.methodLink RL 102 yL_keeps ∈ mh_TB := mh_tb1 (mh_t3 (List.mem_of_getElem? (i := 229) rfl)) rfl
theorem wd_710 : Cond.static yL_keeps ∈ mh_TB := mh_tb1 (mh_t3 (List.mem_of_getElem? (i := 230) rfl)) rfl
theorem wd_711 : Cond.code yL_keeps cL_keeps 2 (some .boolean) ∈ mh_TB := mh_tb1 (mh_t3 (List.mem_of_getElem? (i := 231) rfl)) rfl
theorem wd_712 : Cond.methodLink RL 105 yL_come ∈ mh_TB := mh_tb1 (mh_t3 (List.mem_of_getElem? (i := 232) rfl)) rfl
theorem wd_713 : Cond.static yL_come ∈ mh_TB := mh_tb1 (mh_t3 (List.mem_of_getElem? (i := 233) rfl)) rfl
theorem wd_714 : Cond.code yL_come cL_come 6 (some .long) ∈ mh_TB := mh_tb1 (mh_t3 (List.mem_of_getElem? (i := 234) rfl)) rfl
theorem wd_715 : Cond.methodLink RL 113 yL_through ∈ mh_TB := mh_tb1 (mh_t3 (List.mem_of_getElem? (i := 235) rfl)) rfl
theorem wd_716 : Cond.static yL_through ∈ mh_TB := mh_tb1 (mh_t3 (List.mem_of_getElem? (i := 236) rfl)) rfl
theorem wd_717 : Cond.code yL_through cL_through 4 (some .int) ∈ mh_TB := mh_tb1 (mh_t3 (List.mem_of_getElem? (i := 237) rfl)) rfl
theorem wd_718 : Cond.methodLink RL 116 yJ9_max_f86c9 ∈ mh_TB := mh_tb1 (mh_t3 (List.mem_of_getElem? (i := 238) rfl)) rfl
theorem wd_719 : Cond.static yJ9_max_f86c9 ∈ mh_TB := mh_tb1 (mh_t3 (List.mem_of_getElem? (i := 239) rfl)) rfl
theorem wd_720 : Cond.code yJ9_max_f86c9 cJ9_max_f86c9 4 (some .long) ∈ mh_TB := mh_tb1 (mh_t4 (List.mem_of_getElem? (i := 0) rfl)) rfl
theorem wd_721 : Cond.methodLink RL 109 yL_rubs ∈ mh_TB := mh_tb1 (mh_t4 (List.mem_of_getElem? (i := 1) rfl)) rfl
theorem wd_722 : Cond.static yL_rubs ∈ mh_TB := mh_tb1 (mh_t4 (List.mem_of_getElem? (i := 2) rfl)) rfl
theorem wd_723 : Cond.code yL_rubs cL_rubs 5 (some .int) ∈ mh_TB := mh_tb1 (mh_t4 (List.mem_of_getElem? (i := 3) rfl)) rfl
theorem wd_724 : Cond.constantLong RL 136 (50) ∈ mh_TB := mh_tb1 (mh_t4 (List.mem_of_getElem? (i := 4) rfl)) rfl
theorem wd_725 : Cond.constantLong RL 147 (-4611686018427387904) ∈ mh_TB := mh_tb1 (mh_t4 (List.mem_of_getElem? (i := 5) rfl)) rfl
theorem wd_726 : Cond.sameMethod RJ5 RJ5 "append" "(Ljava/lang/String;)Ljava/lang/AbstractStringBuilder;" ∈ mh_TB := mh_tb1 (mh_t4 (List.mem_of_getElem? (i := 6) rfl)) rfl
theorem wd_727 : Cond.sameMethod RJ5 RJ5 "appendNull" "()Ljava/lang/AbstractStringBuilder;" ∈ mh_TB := mh_tb1 (mh_t4 (List.mem_of_getElem? (i := 7) rfl)) rfl
theorem wd_728 : Cond.sameMethod RJ5 RJ5 "ensureCapacityInternal" "(I)V" ∈ mh_TB := mh_tb1 (mh_t4 (List.mem_of_getElem? (i := 8) rfl)) rfl
theorem wd_729 : Cond.sameMethod RJ5 RJ5 "newCapacity" "(I)I" ∈ mh_TB := mh_tb1 (mh_t4 (List.mem_of_getElem? (i := 9) rfl)) rfl
theorem wd_730 : Cond.sameMethod RJ5 RJ5 "putStringAt" "(ILjava/lang/String;)V" ∈ mh_TB := mh_tb1 (mh_t4 (List.mem_of_getElem? (i := 10) rfl)) rfl
theorem wd_731 : Cond.sameMethod RJ5 RJ5 "inflateIfNeededFor" "(Ljava/lang/String;)V" ∈ mh_TB := mh_tb1 (mh_t4 (List.mem_of_getElem? (i := 11) rfl)) rfl
theorem wd_732 : Cond.sameMethod RJ5 RJ5 "inflate" "()V" ∈ mh_TB := mh_tb1 (mh_t4 (List.mem_of_getElem? (i := 12) rfl)) rfl
theorem wd_733 : Cond.sameMethod RJ5 RJ5 "append" "(I)Ljava/lang/AbstractStringBuilder;" ∈ mh_TB := mh_tb1 (mh_t4 (List.mem_of_getElem? (i := 13) rfl)) rfl
theorem ws_0 : Cond.selects yX5_drop.cls yX5_drop yX5_drop ∈ mh_TB := mh_tb0 0 rfl rfl
theorem ws_1 : Cond.selects yX5_law.cls yX5_law yX5_law ∈ mh_TB := mh_tb0 1 rfl rfl
theorem ws_2 : Cond.selects yX0_runFrom.cls yX0_runFrom yX0_runFrom ∈ mh_TB := mh_tb0 2 rfl rfl
theorem ws_3 : Cond.selects yX1_over.cls yX1_over yX1_over ∈ mh_TB := mh_tb0 3 rfl rfl
theorem ws_4 : Cond.selects yX1_keeps.cls yX1_keeps yX1_keeps ∈ mh_TB := mh_tb0 4 rfl rfl
theorem ws_5 : Cond.selects yX0_restOf.cls yX0_restOf yX0_restOf ∈ mh_TB := mh_tb0 5 rfl rfl
theorem ws_6 : Cond.selects yX4_says.cls yX4_says yX4_says ∈ mh_TB := mh_tb0 6 rfl rfl
theorem ws_7 : Cond.selects yX4_take.cls yX4_take yX4_take ∈ mh_TB := mh_tb0 7 rfl rfl
theorem ws_8 : Cond.selects yX4_push.cls yX4_push yX4_push ∈ mh_TB := mh_tb0 8 rfl rfl
theorem ws_9 : Cond.selects yX4_pop.cls yX4_pop yX4_pop ∈ mh_TB := mh_tb0 9 rfl rfl
theorem ws_10 : Cond.selects yX5_lowestRow.cls yX5_lowestRow yX5_lowestRow ∈ mh_TB := mh_tb0 10 rfl rfl
theorem ws_11 : Cond.selects yX5_together.cls yX5_together yX5_together ∈ mh_TB := mh_tb0 11 rfl rfl
theorem ws_12 : Cond.selects yX5_dropPinned.cls yX5_dropPinned yX5_dropPinned ∈ mh_TB := mh_tb0 12 rfl rfl
theorem ws_13 : Cond.selects yX3_add.cls yX3_add yX3_add ∈ mh_TB := mh_tb0 13 rfl rfl
theorem ws_14 : Cond.selects yX5_readTape.cls yX5_readTape yX5_readTape ∈ mh_TB := mh_tb0 14 rfl rfl
theorem ws_15 : Cond.selects yX3_readInto.cls yX3_readInto yX3_readInto ∈ mh_TB := mh_tb0 15 rfl rfl
theorem ws_16 : Cond.selects yX4_clear.cls yX4_clear yX4_clear ∈ mh_TB := mh_tb0 16 rfl rfl
theorem ws_17 : Cond.selects yX3_advance.cls yX3_advance yX3_advance ∈ mh_TB := mh_tb0 17 rfl rfl
theorem ws_18 : Cond.selects yX3_wordToken.cls yX3_wordToken yX3_wordToken ∈ mh_TB := mh_tb0 18 rfl rfl
theorem ws_19 : Cond.selects yX3_standsAt.cls yX3_standsAt yX3_standsAt ∈ mh_TB := mh_tb0 19 rfl rfl
theorem ws_20 : Cond.selects yX3_chain.cls yX3_chain yX3_chain ∈ mh_TB := mh_tb0 20 rfl rfl
theorem ws_21 : Cond.selects yX3_one.cls yX3_one yX3_one ∈ mh_TB := mh_tb0 21 rfl rfl
theorem ws_22 : Cond.selects yX4_add.cls yX4_add yX4_add ∈ mh_TB := mh_tb0 22 rfl rfl
theorem ws_23 : Cond.selects yX3_opened.cls yX3_opened yX3_opened ∈ mh_TB := mh_tb0 23 rfl rfl
theorem ws_24 : Cond.selects yX3_negation.cls yX3_negation yX3_negation ∈ mh_TB := mh_tb0 24 rfl rfl
theorem ws_25 : Cond.selects yX4_endPart.cls yX4_endPart yX4_endPart ∈ mh_TB := mh_tb0 25 rfl rfl
theorem ws_26 : Cond.selects yX1_become.cls yX1_become yX1_become ∈ mh_TB := mh_tb0 26 rfl rfl
theorem wsS_0 : Cond.selects RJ4 yJ5_ensureCapacityInternal_d00df yJ5_ensureCapacityInternal_d00df ∈ mh_TB := mh_tbS 0 rfl rfl
theorem wsS_1 : Cond.selects RJ4 yJ5_newCapacity_0f7a4 yJ5_newCapacity_0f7a4 ∈ mh_TB := mh_tbS 1 rfl rfl
theorem wsS_2 : Cond.selects RJ4 yJ5_putStringAt_47b60 yJ5_putStringAt_47b60 ∈ mh_TB := mh_tbS 2 rfl rfl
theorem wsS_3 : Cond.selects RJ4 yJ5_inflateIfNeededFor_a7421 yJ5_inflateIfNeededFor_a7421 ∈ mh_TB := mh_tbS 3 rfl rfl
theorem in_X0 : ∀ w ∈ u_ws RX0 TX0 3, w ∈ mh_TB := mh_lay (by decide +kernel) (by decide +kernel)
theorem in_X1 : ∀ w ∈ u_ws RX1 TX1 5, w ∈ mh_TB := mh_lay (by decide +kernel) (by decide +kernel)
theorem in_X2 : ∀ w ∈ u_ws RX2 TX2 3, w ∈ mh_TB := mh_lay (by decide +kernel) (by decide +kernel)
theorem in_X3 : ∀ w ∈ u_ws RX3 TX3 7, w ∈ mh_TB := mh_lay (by decide +kernel) (by decide +kernel)
theorem in_X4 : ∀ w ∈ u_ws RX4 TX4 5, w ∈ mh_TB := mh_lay (by decide +kernel) (by decide +kernel)
theorem in_X5 : ∀ w ∈ u_ws RX5 TX5 9, w ∈ mh_TB := mh_lay (by decide +kernel) (by decide +kernel)
theorem in_J0 : ∀ w ∈ u_ws RJ0 TJ0 4, w ∈ mh_TB := mh_lay (by decide +kernel) (by decide +kernel)
theorem in_J4 : ∀ w ∈ u_ws RJ4 TJ4 4, w ∈ mh_TB := mh_lay (by decide +kernel) (by decide +kernel)
