theorem cv_L_41 : mh_cv RL 41 yX5_pin 2 := ⟨⟨Or.inl wd_19, wd_1, ⟨by decide, by decide⟩, by decide +kernel⟩, wd_20, wd_21⟩
theorem cs_X5_101 : mh_cs RX5 101 yX5_isLoop 1 := ⟨⟨Or.inl wd_23, wd_1, ⟨by decide, by decide⟩, by decide +kernel⟩, wd_24⟩
theorem cs_X5_97 : mh_cs RX5 97 yX5_within 3 := ⟨⟨Or.inl wd_26, wd_1, ⟨by decide, by decide⟩, by decide +kernel⟩, wd_27⟩
theorem cs_X5_139 : mh_cs RX5 139 yX5_hasBit 2 := ⟨⟨Or.inl wd_29, wd_1, ⟨by decide, by decide⟩, by decide +kernel⟩, wd_30⟩
theorem cs_X5_143 : mh_cs RX5 143 yX5_bit 1 := ⟨⟨Or.inl wd_32, wd_1, ⟨by decide, by decide⟩, by decide +kernel⟩, wd_33⟩
theorem cv_L_134 : mh_cv RL 134 yX5_run 3 := ⟨⟨Or.inl wd_36, wd_1, ⟨by decide, by decide⟩, by decide +kernel⟩, wd_37, wd_38⟩
theorem cs_X5_104 : mh_cs RX5 104 yX5_isPull 1 := ⟨⟨Or.inl wd_40, wd_1, ⟨by decide, by decide⟩, by decide +kernel⟩, wd_41⟩
theorem cv_X5_163 : mh_cv RX5 163 yX5_drop 2 := ⟨⟨Or.inl wd_43, wd_1, ⟨by decide, by decide⟩, by decide +kernel⟩, wd_45, ws_0⟩
theorem cv_X5_107 : mh_cv RX5 107 yX5_law 0 := ⟨⟨Or.inl wd_48, wd_1, ⟨by decide, by decide⟩, by decide +kernel⟩, wd_50, ws_1⟩
theorem cv_X5_182 : mh_cv RX5 182 yX0_runFrom 5 := ⟨⟨Or.inr ⟨_, wd_52⟩, wd_4, ⟨by decide, by decide⟩, by decide +kernel⟩, wd_54, ws_2⟩
theorem cv_X0_22 : mh_cv RX0 22 yX1_over 1 := ⟨⟨Or.inr ⟨_, wd_57⟩, wd_2, ⟨by decide, by decide⟩, by decide +kernel⟩, wd_59, ws_3⟩
theorem cs_X1_39 : mh_cs RX1 39 yX5_goesThroughOwn 1 := ⟨⟨Or.inr ⟨_, wd_62⟩, wd_1, ⟨by decide, by decide⟩, by decide +kernel⟩, wd_63⟩
theorem cs_X1_50 : mh_cs RX1 50 yX5_bit 1 := ⟨⟨Or.inr ⟨_, wd_65⟩, wd_1, ⟨by decide, by decide⟩, by decide +kernel⟩, wd_33⟩
theorem cs_X1_43 : mh_cs RX1 43 yX5_goesThroughNext 1 := ⟨⟨Or.inr ⟨_, wd_66⟩, wd_1, ⟨by decide, by decide⟩, by decide +kernel⟩, wd_67⟩
theorem cs_X0_28 : mh_cs RX0 28 yX5_hasBit 2 := ⟨⟨Or.inr ⟨_, wd_69⟩, wd_1, ⟨by decide, by decide⟩, by decide +kernel⟩, wd_30⟩
theorem cv_X0_32 : mh_cv RX0 32 yX1_keeps 1 := ⟨⟨Or.inr ⟨_, wd_70⟩, wd_2, ⟨by decide, by decide⟩, by decide +kernel⟩, wd_72, ws_4⟩
theorem cs_X1_35 : mh_cs RX1 35 yX5_hasBit 2 := ⟨⟨Or.inr ⟨_, wd_74⟩, wd_1, ⟨by decide, by decide⟩, by decide +kernel⟩, wd_30⟩
theorem cv_X0_36 : mh_cv RX0 36 yX0_restOf 4 := ⟨⟨Or.inl wd_75, wd_4, ⟨by decide, by decide⟩, by decide +kernel⟩, wd_77, ws_5⟩
theorem cs_X0_49 : mh_cs RX0 49 yJ9_max_7cf53 2 := ⟨⟨Or.inl wd_79, wd_14, ⟨by decide, by decide⟩, by decide +kernel⟩, wd_80⟩
theorem cv_X0_55 : mh_cv RX0 55 yX4_says 4 := ⟨⟨Or.inr ⟨_, wd_82⟩, wd_5, ⟨by decide, by decide⟩, by decide +kernel⟩, wd_84, ws_6⟩
theorem cs_X4_28 : mh_cs RX4 28 yJ9_min_7cf53 2 := ⟨⟨Or.inl wd_87, wd_14, ⟨by decide, by decide⟩, by decide +kernel⟩, wd_88⟩
theorem cv_X4_34 : mh_cv RX4 34 yX4_take 4 := ⟨⟨Or.inl wd_90, wd_5, ⟨by decide, by decide⟩, by decide +kernel⟩, wd_92, ws_7⟩
theorem cv_X4_45 : mh_cv RX4 45 yX4_push 1 := ⟨⟨Or.inl wd_94, wd_5, ⟨by decide, by decide⟩, by decide +kernel⟩, wd_96, ws_8⟩
theorem cs_X4_57 : mh_cs RX4 57 yX5_faceOf 1 := ⟨⟨Or.inr ⟨_, wd_98⟩, wd_1, ⟨by decide, by decide⟩, by decide +kernel⟩, wd_99⟩
theorem cs_X4_65 : mh_cs RX4 65 yX5_hasBit 2 := ⟨⟨Or.inr ⟨_, wd_101⟩, wd_1, ⟨by decide, by decide⟩, by decide +kernel⟩, wd_30⟩
theorem cv_X4_38 : mh_cv RX4 38 yX4_pop 0 := ⟨⟨Or.inl wd_102, wd_5, ⟨by decide, by decide⟩, by decide +kernel⟩, wd_104, ws_9⟩
theorem cs_X4_69 : mh_cs RX4 69 yX4_joined 3 := ⟨⟨Or.inl wd_106, wd_5, ⟨by decide, by decide⟩, by decide +kernel⟩, wd_107⟩
theorem cs_X4_42 : mh_cs RX4 42 yX5_bounded 2 := ⟨⟨Or.inr ⟨_, wd_109⟩, wd_1, ⟨by decide, by decide⟩, by decide +kernel⟩, wd_110⟩
theorem cs_X5_272 : mh_cs RX5 272 yJ9_min_7cf53 2 := ⟨⟨Or.inl wd_112, wd_14, ⟨by decide, by decide⟩, by decide +kernel⟩, wd_88⟩
theorem cs_X5_277 : mh_cs RX5 277 yJ9_max_7cf53 2 := ⟨⟨Or.inl wd_113, wd_14, ⟨by decide, by decide⟩, by decide +kernel⟩, wd_80⟩
theorem cs_X0_67 : mh_cs RX0 67 yX5_rubOf 3 := ⟨⟨Or.inr ⟨_, wd_114⟩, wd_1, ⟨by decide, by decide⟩, by decide +kernel⟩, wd_115⟩
theorem cs_X0_71 : mh_cs RX0 71 yX5_bounded 2 := ⟨⟨Or.inr ⟨_, wd_117⟩, wd_1, ⟨by decide, by decide⟩, by decide +kernel⟩, wd_110⟩
theorem cs_X0_40 : mh_cs RX0 40 yX5_bit 1 := ⟨⟨Or.inr ⟨_, wd_118⟩, wd_1, ⟨by decide, by decide⟩, by decide +kernel⟩, wd_33⟩
theorem cs_X0_43 : mh_cs RX0 43 yJ13_bitCount_95d88 1 := ⟨⟨Or.inl wd_119, wd_18, ⟨by decide, by decide⟩, by decide +kernel⟩, wd_120⟩
theorem cs_X5_74 : mh_cs RX5 74 yJ13_bitCount_95d88 1 := ⟨⟨Or.inl wd_125, wd_18, ⟨by decide, by decide⟩, by decide +kernel⟩, wd_120⟩
theorem cv_X5_170 : mh_cv RX5 170 yX5_lowestRow 0 := ⟨⟨Or.inl wd_126, wd_1, ⟨by decide, by decide⟩, by decide +kernel⟩, wd_128, ws_10⟩
theorem cs_X5_284 : mh_cs RX5 284 yJ13_numberOfTrailingZeros_95d88 1 := ⟨⟨Or.inl wd_130, wd_18, ⟨by decide, by decide⟩, by decide +kernel⟩, wd_131⟩
theorem cs_J13_311 : mh_cs RJ13 311 yJ6_numberOfTrailingZeros_0f7a4 1 := ⟨⟨Or.inl wd_133, wd_17, ⟨by decide, by decide⟩, by decide +kernel⟩, wd_134⟩
theorem cv_X5_173 : mh_cv RX5 173 yX5_together 1 := ⟨⟨Or.inl wd_137, wd_1, ⟨by decide, by decide⟩, by decide +kernel⟩, wd_139, ws_11⟩
theorem cv_X5_110 : mh_cv RX5 110 yX4_says 4 := ⟨⟨Or.inr ⟨_, wd_141⟩, wd_5, ⟨by decide, by decide⟩, by decide +kernel⟩, wd_84, ws_6⟩
theorem cv_L_130 : mh_cv RL 130 yX5_goes 3 := ⟨⟨Or.inl wd_142, wd_1, ⟨by decide, by decide⟩, by decide +kernel⟩, wd_143, wd_144⟩
theorem cv_L_127 : mh_cv RL 127 yX5_left 3 := ⟨⟨Or.inl wd_147, wd_1, ⟨by decide, by decide⟩, by decide +kernel⟩, wd_148, wd_149⟩
theorem cv_L_141 : mh_cv RL 141 yX5_column 3 := ⟨⟨Or.inl wd_151, wd_1, ⟨by decide, by decide⟩, by decide +kernel⟩, wd_152, wd_153⟩
theorem cv_L_144 : mh_cv RL 144 yX5_pinned 4 := ⟨⟨Or.inl wd_155, wd_1, ⟨by decide, by decide⟩, by decide +kernel⟩, wd_156, wd_157⟩
theorem cv_X5_209 : mh_cv RX5 209 yX5_dropPinned 3 := ⟨⟨Or.inl wd_159, wd_1, ⟨by decide, by decide⟩, by decide +kernel⟩, wd_161, ws_12⟩
theorem cv_L_138 : mh_cv RL 138 yX5_mending 3 := ⟨⟨Or.inl wd_163, wd_1, ⟨by decide, by decide⟩, by decide +kernel⟩, wd_164, wd_165⟩
theorem cs_L_58 : mh_cs RL 58 yL_at 2 := ⟨⟨Or.inl wd_167, wd_0, ⟨by decide, by decide⟩, by decide +kernel⟩, wd_168⟩
theorem cs_L_119 : mh_cs RL 119 yL_build 1 := ⟨⟨Or.inl wd_170, wd_0, ⟨by decide, by decide⟩, by decide +kernel⟩, wd_171⟩
theorem ci_L_23 : mh_ci RL 23 yX5_init 0 := ⟨⟨Or.inl wd_174, wd_1, ⟨by decide, by decide⟩, by decide +kernel⟩, wd_175, rfl⟩
theorem ci_X5_9 : mh_ci RX5 9 yX1_init 0 := ⟨⟨Or.inr ⟨_, wd_181⟩, wd_2, ⟨by decide, by decide⟩, by decide +kernel⟩, wd_182, rfl⟩
theorem gf_X1_9 : mh_fl RX1 9 1 0 := ⟨RX1, TX1, 5, rfl, in_X1, by decide, trivial, Or.inl wd_185⟩
theorem pf_X1_9 : mh_fp RX1 9 1 0 (.array .int) true := ⟨RX1, TX1, 5, tyX1, rfl, in_X1, by decide, trivial, Or.inl wd_185, tyX1_ok, nmX1, rfl, by decide +kernel, fun _ => rfl⟩
theorem gf_X0_61 : mh_fl RX0 61 1 0 := ⟨RX1, TX1, 5, rfl, in_X1, by decide, trivial, Or.inr ⟨_, wd_186⟩⟩
theorem gf_X4_54 : mh_fl RX4 54 1 0 := ⟨RX1, TX1, 5, rfl, in_X1, by decide, trivial, Or.inr ⟨_, wd_187⟩⟩
theorem gf_X5_118 : mh_fl RX5 118 1 0 := ⟨RX1, TX1, 5, rfl, in_X1, by decide, trivial, Or.inr ⟨_, wd_188⟩⟩
theorem gf_X1_15 : mh_fl RX1 15 1 1 := ⟨RX1, TX1, 5, rfl, in_X1, by decide, trivial, Or.inl wd_189⟩
theorem pf_X1_15 : mh_fp RX1 15 1 1 (.array .int) true := ⟨RX1, TX1, 5, tyX1, rfl, in_X1, by decide, trivial, Or.inl wd_189, tyX1_ok, nmX1, rfl, by decide +kernel, fun _ => rfl⟩
theorem gf_X0_64 : mh_fl RX0 64 1 1 := ⟨RX1, TX1, 5, rfl, in_X1, by decide, trivial, Or.inr ⟨_, wd_190⟩⟩
theorem gf_X4_49 : mh_fl RX4 49 1 1 := ⟨RX1, TX1, 5, rfl, in_X1, by decide, trivial, Or.inr ⟨_, wd_191⟩⟩
theorem gf_X1_24 : mh_fl RX1 24 1 2 := ⟨RX1, TX1, 5, rfl, in_X1, by decide, trivial, Or.inl wd_192⟩
theorem pf_X1_24 : mh_fp RX1 24 1 2 .long false := ⟨RX1, TX1, 5, tyX1, rfl, in_X1, by decide, trivial, Or.inl wd_192, tyX1_ok, nmX1, rfl, by decide +kernel, fun _ => rfl⟩
theorem gf_X5_70 : mh_fl RX5 70 1 2 := ⟨RX1, TX1, 5, rfl, in_X1, by decide, trivial, Or.inr ⟨_, wd_193⟩⟩
theorem pf_X5_70 : mh_fp RX5 70 1 2 .long false := ⟨RX1, TX1, 5, tyX1, rfl, in_X1, by decide, trivial, Or.inr ⟨rfl, _, wd_193⟩, tyX1_ok, nmX1, rfl, by decide +kernel, fun h => by cases h⟩
theorem gf_X4_61 : mh_fl RX4 61 1 3 := ⟨RX1, TX1, 5, rfl, in_X1, by decide, trivial, Or.inr ⟨_, wd_194⟩⟩
theorem pf_X4_61 : mh_fp RX4 61 1 3 .long false := ⟨RX1, TX1, 5, tyX1, rfl, in_X1, by decide, trivial, Or.inr ⟨rfl, _, wd_194⟩, tyX1_ok, nmX1, rfl, by decide +kernel, fun h => by cases h⟩
theorem gf_X5_87 : mh_fl RX5 87 1 4 := ⟨RX1, TX1, 5, rfl, in_X1, by decide, trivial, Or.inr ⟨_, wd_195⟩⟩
theorem pf_X5_87 : mh_fp RX5 87 1 4 .int false := ⟨RX1, TX1, 5, tyX1, rfl, in_X1, by decide, trivial, Or.inr ⟨rfl, _, wd_195⟩, tyX1_ok, nmX1, rfl, by decide +kernel, fun h => by cases h⟩
theorem ci_X5_21 : mh_ci RX5 21 yX3_init 0 := ⟨⟨Or.inr ⟨_, wd_210⟩, wd_3, ⟨by decide, by decide⟩, by decide +kernel⟩, wd_211, rfl⟩
theorem gf_X3_9 : mh_fl RX3 9 3 0 := ⟨RX3, TX3, 7, rfl, in_X3, by decide, trivial, Or.inl wd_214⟩
theorem pf_X3_9 : mh_fp RX3 9 3 0 (.array .int) true := ⟨RX3, TX3, 7, tyX3, rfl, in_X3, by decide, trivial, Or.inl wd_214, tyX3_ok, nmX3, rfl, by decide +kernel, fun _ => rfl⟩
theorem gf_X3_15 : mh_fl RX3 15 3 1 := ⟨RX3, TX3, 7, rfl, in_X3, by decide, trivial, Or.inl wd_215⟩
theorem pf_X3_15 : mh_fp RX3 15 3 1 .int false := ⟨RX3, TX3, 7, tyX3, rfl, in_X3, by decide, trivial, Or.inl wd_215, tyX3_ok, nmX3, rfl, by decide +kernel, fun _ => rfl⟩
theorem gf_X5_90 : mh_fl RX5 90 3 1 := ⟨RX3, TX3, 7, rfl, in_X3, by decide, trivial, Or.inr ⟨_, wd_216⟩⟩
theorem pf_X5_90 : mh_fp RX5 90 3 1 .int false := ⟨RX3, TX3, 7, tyX3, rfl, in_X3, by decide, trivial, Or.inr ⟨rfl, _, wd_216⟩, tyX3_ok, nmX3, rfl, by decide +kernel, fun h => by cases h⟩
theorem gf_X3_28 : mh_fl RX3 28 3 2 := ⟨RX3, TX3, 7, rfl, in_X3, by decide, trivial, Or.inl wd_217⟩
theorem pf_X3_28 : mh_fp RX3 28 3 2 .int false := ⟨RX3, TX3, 7, tyX3, rfl, in_X3, by decide, trivial, Or.inl wd_217, tyX3_ok, nmX3, rfl, by decide +kernel, fun _ => rfl⟩
theorem gf_X3_37 : mh_fl RX3 37 3 3 := ⟨RX3, TX3, 7, rfl, in_X3, by decide, trivial, Or.inl wd_218⟩
theorem pf_X3_37 : mh_fp RX3 37 3 3 .int false := ⟨RX3, TX3, 7, tyX3, rfl, in_X3, by decide, trivial, Or.inl wd_218, tyX3_ok, nmX3, rfl, by decide +kernel, fun _ => rfl⟩
theorem gf_X3_34 : mh_fl RX3 34 3 4 := ⟨RX3, TX3, 7, rfl, in_X3, by decide, trivial, Or.inl wd_219⟩
theorem pf_X3_34 : mh_fp RX3 34 3 4 .int false := ⟨RX3, TX3, 7, tyX3, rfl, in_X3, by decide, trivial, Or.inl wd_219, tyX3_ok, nmX3, rfl, by decide +kernel, fun _ => rfl⟩
theorem gf_X3_61 : mh_fl RX3 61 3 5 := ⟨RX3, TX3, 7, rfl, in_X3, by decide, trivial, Or.inl wd_220⟩
theorem pf_X3_61 : mh_fp RX3 61 3 5 .int false := ⟨RX3, TX3, 7, tyX3, rfl, in_X3, by decide, trivial, Or.inl wd_220, tyX3_ok, nmX3, rfl, by decide +kernel, fun _ => rfl⟩
theorem gf_X3_19 : mh_fl RX3 19 3 6 := ⟨RX3, TX3, 7, rfl, in_X3, by decide, trivial, Or.inl wd_221⟩
theorem pf_X3_19 : mh_fp RX3 19 3 6 (.object RX4) false := ⟨RX3, TX3, 7, tyX3, rfl, in_X3, by decide, trivial, Or.inl wd_221, tyX3_ok, nmX3, rfl, by decide +kernel, fun _ => rfl⟩
theorem ci_X5_34 : mh_ci RX5 34 yX0_init 0 := ⟨⟨Or.inr ⟨_, wd_240⟩, wd_4, ⟨by decide, by decide⟩, by decide +kernel⟩, wd_241, rfl⟩
theorem gf_X0_9 : mh_fl RX0 9 0 0 := ⟨RX0, TX0, 3, rfl, in_X0, by decide, trivial, Or.inl wd_244⟩
theorem pf_X0_9 : mh_fp RX0 9 0 0 (.array .int) true := ⟨RX0, TX0, 3, tyX0, rfl, in_X0, by decide, trivial, Or.inl wd_244, tyX0_ok, nmX0, rfl, by decide +kernel, fun _ => rfl⟩
theorem gf_X5_179 : mh_fl RX5 179 0 0 := ⟨RX0, TX0, 3, rfl, in_X0, by decide, trivial, Or.inr ⟨_, wd_245⟩⟩
theorem gf_X0_15 : mh_fl RX0 15 0 1 := ⟨RX0, TX0, 3, rfl, in_X0, by decide, trivial, Or.inl wd_246⟩
theorem pf_X0_15 : mh_fp RX0 15 0 1 .long false := ⟨RX0, TX0, 3, tyX0, rfl, in_X0, by decide, trivial, Or.inl wd_246, tyX0_ok, nmX0, rfl, by decide +kernel, fun _ => rfl⟩
theorem gf_X5_167 : mh_fl RX5 167 0 1 := ⟨RX0, TX0, 3, rfl, in_X0, by decide, trivial, Or.inr ⟨_, wd_247⟩⟩
theorem pf_X5_167 : mh_fp RX5 167 0 1 .long false := ⟨RX0, TX0, 3, tyX0, rfl, in_X0, by decide, trivial, Or.inr ⟨rfl, _, wd_247⟩, tyX0_ok, nmX0, rfl, by decide +kernel, fun h => by cases h⟩
theorem gf_X0_19 : mh_fl RX0 19 0 2 := ⟨RX0, TX0, 3, rfl, in_X0, by decide, trivial, Or.inl wd_248⟩
theorem pf_X0_19 : mh_fp RX0 19 0 2 .long false := ⟨RX0, TX0, 3, tyX0, rfl, in_X0, by decide, trivial, Or.inl wd_248, tyX0_ok, nmX0, rfl, by decide +kernel, fun _ => rfl⟩
theorem gf_X5_176 : mh_fl RX5 176 0 2 := ⟨RX0, TX0, 3, rfl, in_X0, by decide, trivial, Or.inr ⟨_, wd_249⟩⟩
theorem pf_X5_176 : mh_fp RX5 176 0 2 .long false := ⟨RX0, TX0, 3, tyX0, rfl, in_X0, by decide, trivial, Or.inr ⟨rfl, _, wd_249⟩, tyX0_ok, nmX0, rfl, by decide +kernel, fun h => by cases h⟩
theorem ci_X5_49 : mh_ci RX5 49 yX4_init 0 := ⟨⟨Or.inr ⟨_, wd_259⟩, wd_5, ⟨by decide, by decide⟩, by decide +kernel⟩, wd_260, rfl⟩
theorem gf_X4_9 : mh_fl RX4 9 4 0 := ⟨RX4, TX4, 5, rfl, in_X4, by decide, trivial, Or.inl wd_263⟩
theorem pf_X4_9 : mh_fp RX4 9 4 0 (.array .int) true := ⟨RX4, TX4, 5, tyX4, rfl, in_X4, by decide, trivial, Or.inl wd_263, tyX4_ok, nmX4, rfl, by decide +kernel, fun _ => rfl⟩
theorem gf_X4_21 : mh_fl RX4 21 4 1 := ⟨RX4, TX4, 5, rfl, in_X4, by decide, trivial, Or.inl wd_264⟩
theorem pf_X4_21 : mh_fp RX4 21 4 1 .int false := ⟨RX4, TX4, 5, tyX4, rfl, in_X4, by decide, trivial, Or.inl wd_264, tyX4_ok, nmX4, rfl, by decide +kernel, fun _ => rfl⟩
theorem gf_X4_15 : mh_fl RX4 15 4 2 := ⟨RX4, TX4, 5, rfl, in_X4, by decide, trivial, Or.inl wd_265⟩
theorem pf_X4_15 : mh_fp RX4 15 4 2 (.array .int) true := ⟨RX4, TX4, 5, tyX4, rfl, in_X4, by decide, trivial, Or.inl wd_265, tyX4_ok, nmX4, rfl, by decide +kernel, fun _ => rfl⟩
theorem gf_X4_18 : mh_fl RX4 18 4 3 := ⟨RX4, TX4, 5, rfl, in_X4, by decide, trivial, Or.inl wd_266⟩
theorem pf_X4_18 : mh_fp RX4 18 4 3 (.array .int) true := ⟨RX4, TX4, 5, tyX4, rfl, in_X4, by decide, trivial, Or.inl wd_266, tyX4_ok, nmX4, rfl, by decide +kernel, fun _ => rfl⟩
theorem gf_X4_25 : mh_fl RX4 25 4 4 := ⟨RX4, TX4, 5, rfl, in_X4, by decide, trivial, Or.inl wd_267⟩
theorem pf_X4_25 : mh_fp RX4 25 4 4 .int false := ⟨RX4, TX4, 5, tyX4, rfl, in_X4, by decide, trivial, Or.inl wd_267, tyX4_ok, nmX4, rfl, by decide +kernel, fun _ => rfl⟩
theorem ci_X5_50 : mh_ci RX5 50 yX2_init 0 := ⟨⟨Or.inr ⟨_, wd_281⟩, wd_6, ⟨by decide, by decide⟩, by decide +kernel⟩, wd_282, rfl⟩
theorem gf_X2_9 : mh_fl RX2 9 2 0 := ⟨RX2, TX2, 3, rfl, in_X2, by decide, trivial, Or.inl wd_285⟩
theorem pf_X2_9 : mh_fp RX2 9 2 0 (.array .int) true := ⟨RX2, TX2, 3, tyX2, rfl, in_X2, by decide, trivial, Or.inl wd_285, tyX2_ok, nmX2, rfl, by decide +kernel, fun _ => rfl⟩
theorem gf_X2_15 : mh_fl RX2 15 2 1 := ⟨RX2, TX2, 3, rfl, in_X2, by decide, trivial, Or.inl wd_286⟩
theorem pf_X2_15 : mh_fp RX2 15 2 1 .int false := ⟨RX2, TX2, 3, tyX2, rfl, in_X2, by decide, trivial, Or.inl wd_286, tyX2_ok, nmX2, rfl, by decide +kernel, fun _ => rfl⟩
theorem cv_X5_53 : mh_cv RX5 53 yJ0_length_8abf5 0 := ⟨⟨Or.inl wd_295, wd_7, ⟨by decide, by decide⟩, by decide +kernel⟩, wd_296, wd_297⟩
theorem cv_J0_335 : mh_cv RJ0 335 yJ0_coder_7d493 0 := ⟨⟨Or.inl wd_299, wd_7, ⟨by decide, by decide⟩, by decide +kernel⟩, wd_300, wd_301⟩
theorem cv_X5_59 : mh_cv RX5 59 yJ0_charAt_5068e 1 := ⟨⟨Or.inl wd_305, wd_7, ⟨by decide, by decide⟩, by decide +kernel⟩, wd_306, wd_307⟩
theorem cv_J0_492 : mh_cv RJ0 492 yJ0_isLatin1_aae02 0 := ⟨⟨Or.inl wd_309, wd_7, ⟨by decide, by decide⟩, by decide +kernel⟩, wd_310, wd_311⟩
theorem cs_J0_495 : mh_cs RJ0 495 yJ1_charAt_3b067 2 := ⟨⟨Or.inl wd_313, wd_8, ⟨by decide, by decide⟩, by decide +kernel⟩, wd_314⟩
theorem cs_J1_9 : mh_cs RJ1 9 yJ0_checkIndex_df160 2 := ⟨⟨Or.inl wd_316, wd_7, ⟨by decide, by decide⟩, by decide +kernel⟩, wd_317⟩
theorem cs_J0_1059 : mh_cs RJ0 1059 yJ3_checkIndex_8e157 3 := ⟨⟨Or.inl wd_321, wd_9, ⟨by decide, by decide⟩, by decide +kernel⟩, wd_322⟩
theorem cs_J0_498 : mh_cs RJ0 498 yJ2_charAt_3b067 2 := ⟨⟨Or.inl wd_324, wd_10, ⟨by decide, by decide⟩, by decide +kernel⟩, wd_325⟩
theorem cs_J2_67 : mh_cs RJ2 67 yJ2_checkIndex_2214a 2 := ⟨⟨Or.inl wd_327, wd_10, ⟨by decide, by decide⟩, by decide +kernel⟩, wd_328⟩
theorem cs_J2_48 : mh_cs RJ2 48 yJ2_length_9d52b 1 := ⟨⟨Or.inl wd_330, wd_10, ⟨by decide, by decide⟩, by decide +kernel⟩, wd_331⟩
theorem cs_J2_414 : mh_cs RJ2 414 yJ0_checkIndex_df160 2 := ⟨⟨Or.inl wd_333, wd_7, ⟨by decide, by decide⟩, by decide +kernel⟩, wd_317⟩
theorem cs_J2_71 : mh_cs RJ2 71 yJ2_getChar_3b067 2 := ⟨⟨Or.inl wd_334, wd_10, ⟨by decide, by decide⟩, by decide +kernel⟩, wd_335⟩
theorem cv_X5_63 : mh_cv RX5 63 yX3_add 1 := ⟨⟨Or.inr ⟨_, wd_343⟩, wd_3, ⟨by decide, by decide⟩, by decide +kernel⟩, wd_345, ws_13⟩
theorem cv_X5_67 : mh_cv RX5 67 yX5_readTape 0 := ⟨⟨Or.inl wd_347, wd_1, ⟨by decide, by decide⟩, by decide +kernel⟩, wd_349, ws_14⟩
theorem cv_X5_280 : mh_cv RX5 280 yX3_readInto 1 := ⟨⟨Or.inr ⟨_, wd_351⟩, wd_3, ⟨by decide, by decide⟩, by decide +kernel⟩, wd_353, ws_15⟩
theorem cv_X3_23 : mh_cv RX3 23 yX4_clear 0 := ⟨⟨Or.inr ⟨_, wd_355⟩, wd_5, ⟨by decide, by decide⟩, by decide +kernel⟩, wd_357, ws_16⟩
theorem cv_X3_31 : mh_cv RX3 31 yX3_advance 0 := ⟨⟨Or.inl wd_359, wd_3, ⟨by decide, by decide⟩, by decide +kernel⟩, wd_361, ws_17⟩
theorem cs_X3_71 : mh_cs RX3 71 yX3_isLetter 1 := ⟨⟨Or.inl wd_363, wd_3, ⟨by decide, by decide⟩, by decide +kernel⟩, wd_364⟩
theorem cs_X3_64 : mh_cs RX3 64 yX5_within 3 := ⟨⟨Or.inr ⟨_, wd_366⟩, wd_1, ⟨by decide, by decide⟩, by decide +kernel⟩, wd_27⟩
theorem cv_X3_74 : mh_cv RX3 74 yX3_wordToken 1 := ⟨⟨Or.inl wd_367, wd_3, ⟨by decide, by decide⟩, by decide +kernel⟩, wd_369, ws_18⟩
theorem cv_X3_86 : mh_cv RX3 86 yJ0_length_8abf5 0 := ⟨⟨Or.inl wd_372, wd_7, ⟨by decide, by decide⟩, by decide +kernel⟩, wd_296, wd_297⟩
theorem cv_X3_92 : mh_cv RX3 92 yJ0_charAt_5068e 1 := ⟨⟨Or.inl wd_373, wd_7, ⟨by decide, by decide⟩, by decide +kernel⟩, wd_306, wd_307⟩
theorem cv_X3_96 : mh_cv RX3 96 yX3_standsAt 2 := ⟨⟨Or.inl wd_374, wd_3, ⟨by decide, by decide⟩, by decide +kernel⟩, wd_376, ws_19⟩
theorem cs_X3_78 : mh_cs RX3 78 yX3_isDigit 1 := ⟨⟨Or.inl wd_378, wd_3, ⟨by decide, by decide⟩, by decide +kernel⟩, wd_379⟩
theorem cs_X3_81 : mh_cs RX3 81 yX3_isSign 1 := ⟨⟨Or.inl wd_381, wd_3, ⟨by decide, by decide⟩, by decide +kernel⟩, wd_382⟩
theorem cv_X3_40 : mh_cv RX3 40 yX3_chain 2 := ⟨⟨Or.inl wd_384, wd_3, ⟨by decide, by decide⟩, by decide +kernel⟩, wd_386, ws_20⟩
theorem cv_X3_48 : mh_cv RX3 48 yX3_one 1 := ⟨⟨Or.inl wd_388, wd_3, ⟨by decide, by decide⟩, by decide +kernel⟩, wd_390, ws_21⟩
theorem cv_X3_58 : mh_cv RX3 58 yX4_add 1 := ⟨⟨Or.inr ⟨_, wd_392⟩, wd_5, ⟨by decide, by decide⟩, by decide +kernel⟩, wd_394, ws_22⟩
theorem cv_X3_68 : mh_cv RX3 68 yX3_opened 1 := ⟨⟨Or.inl wd_396, wd_3, ⟨by decide, by decide⟩, by decide +kernel⟩, wd_398, ws_23⟩
theorem cv_X3_52 : mh_cv RX3 52 yX3_negation 1 := ⟨⟨Or.inl wd_400, wd_3, ⟨by decide, by decide⟩, by decide +kernel⟩, wd_402, ws_24⟩
theorem cs_X3_55 : mh_cs RX3 55 yX3_joins 2 := ⟨⟨Or.inl wd_404, wd_3, ⟨by decide, by decide⟩, by decide +kernel⟩, wd_405⟩
theorem cv_X3_44 : mh_cv RX3 44 yX4_endPart 1 := ⟨⟨Or.inr ⟨_, wd_407⟩, wd_5, ⟨by decide, by decide⟩, by decide +kernel⟩, wd_409, ws_25⟩
theorem gf_X5_10 : mh_fl RX5 10 5 0 := ⟨RX5, TX5, 9, rfl, in_X5, by decide, trivial, Or.inl wd_411⟩
theorem pf_X5_10 : mh_fp RX5 10 5 0 (.object RX1) true := ⟨RX5, TX5, 9, tyX5, rfl, in_X5, by decide, trivial, Or.inl wd_411, tyX5_ok, nmX5, rfl, by decide +kernel, fun _ => rfl⟩
theorem gf_X5_16 : mh_fl RX5 16 5 1 := ⟨RX5, TX5, 9, rfl, in_X5, by decide, trivial, Or.inl wd_412⟩
theorem pf_X5_16 : mh_fp RX5 16 5 1 (.object RX1) true := ⟨RX5, TX5, 9, tyX5, rfl, in_X5, by decide, trivial, Or.inl wd_412, tyX5_ok, nmX5, rfl, by decide +kernel, fun _ => rfl⟩
theorem gf_X5_22 : mh_fl RX5 22 5 3 := ⟨RX5, TX5, 9, rfl, in_X5, by decide, trivial, Or.inl wd_413⟩
theorem pf_X5_22 : mh_fp RX5 22 5 3 (.object RX3) true := ⟨RX5, TX5, 9, tyX5, rfl, in_X5, by decide, trivial, Or.inl wd_413, tyX5_ok, nmX5, rfl, by decide +kernel, fun _ => rfl⟩
theorem gf_X5_28 : mh_fl RX5 28 5 4 := ⟨RX5, TX5, 9, rfl, in_X5, by decide, trivial, Or.inl wd_414⟩
theorem pf_X5_28 : mh_fp RX5 28 5 4 (.array (.object RX4)) true := ⟨RX5, TX5, 9, tyX5, rfl, in_X5, by decide, trivial, Or.inl wd_414, tyX5_ok, nmX5, rfl, by decide +kernel, fun _ => rfl⟩
theorem gf_X5_83 : mh_fl RX5 83 5 5 := ⟨RX5, TX5, 9, rfl, in_X5, by decide, trivial, Or.inl wd_415⟩
theorem pf_X5_83 : mh_fp RX5 83 5 5 .int false := ⟨RX5, TX5, 9, tyX5, rfl, in_X5, by decide, trivial, Or.inl wd_415, tyX5_ok, nmX5, rfl, by decide +kernel, fun _ => rfl⟩
theorem gf_X5_35 : mh_fl RX5 35 5 6 := ⟨RX5, TX5, 9, rfl, in_X5, by decide, trivial, Or.inl wd_416⟩
theorem pf_X5_35 : mh_fp RX5 35 5 6 (.object RX0) true := ⟨RX5, TX5, 9, tyX5, rfl, in_X5, by decide, trivial, Or.inl wd_416, tyX5_ok, nmX5, rfl, by decide +kernel, fun _ => rfl⟩
theorem gf_X5_41 : mh_fl RX5 41 5 7 := ⟨RX5, TX5, 9, rfl, in_X5, by decide, trivial, Or.inl wd_417⟩
theorem pf_X5_41 : mh_fp RX5 41 5 7 (.array (.object RX2)) true := ⟨RX5, TX5, 9, tyX5, rfl, in_X5, by decide, trivial, Or.inl wd_417, tyX5_ok, nmX5, rfl, by decide +kernel, fun _ => rfl⟩
theorem gf_X5_45 : mh_fl RX5 45 5 8 := ⟨RX5, TX5, 9, rfl, in_X5, by decide, trivial, Or.inl wd_418⟩
theorem pf_X5_45 : mh_fp RX5 45 5 8 (.array .long) true := ⟨RX5, TX5, 9, tyX5, rfl, in_X5, by decide, trivial, Or.inl wd_418, tyX5_ok, nmX5, rfl, by decide +kernel, fun _ => rfl⟩
theorem cs_L_24 : mh_cs RL 24 yL_kind 2 := ⟨⟨Or.inl wd_439, wd_0, ⟨by decide, by decide⟩, by decide +kernel⟩, wd_440⟩
theorem cs_L_30 : mh_cs RL 30 yL_more 2 := ⟨⟨Or.inl wd_442, wd_0, ⟨by decide, by decide⟩, by decide +kernel⟩, wd_443⟩
theorem cv_L_33 : mh_cv RL 33 yX5_knit 3 := ⟨⟨Or.inl wd_445, wd_1, ⟨by decide, by decide⟩, by decide +kernel⟩, wd_446, wd_447⟩
theorem cs_X5_114 : mh_cs RX5 114 yX5_isKnit 2 := ⟨⟨Or.inl wd_449, wd_1, ⟨by decide, by decide⟩, by decide +kernel⟩, wd_450⟩
theorem cv_X5_122 : mh_cv RX5 122 yX1_become 3 := ⟨⟨Or.inr ⟨_, wd_452⟩, wd_2, ⟨by decide, by decide⟩, by decide +kernel⟩, wd_454, ws_26⟩
theorem cs_L_37 : mh_cs RL 37 yL_pinned 2 := ⟨⟨Or.inl wd_456, wd_0, ⟨by decide, by decide⟩, by decide +kernel⟩, wd_457⟩
theorem cs_L_45 : mh_cs RL 45 yL_plain 1 := ⟨⟨Or.inl wd_459, wd_0, ⟨by decide, by decide⟩, by decide +kernel⟩, wd_460⟩
theorem ci_L_51 : mh_ci RL 51 yJ4_init_da8c8 0 := ⟨⟨Or.inl wd_464, wd_12, ⟨by decide, by decide⟩, by decide +kernel⟩, wd_465, rfl⟩
theorem ci_J4_1 : mh_ci RJ4 1 yJ5_init_d00df 1 := ⟨⟨Or.inl wd_467, wd_11, ⟨by decide, by decide⟩, by decide +kernel⟩, wd_468, rfl⟩
theorem cs_J5_26 : mh_cs RJ5 26 yJ2_newBytesFor_77867 1 := ⟨⟨Or.inl wd_472, wd_10, ⟨by decide, by decide⟩, by decide +kernel⟩, wd_473⟩
theorem cs_J2_11 : mh_cs RJ2 11 yJ2_newBytesLength_0f7a4 1 := ⟨⟨Or.inl wd_475, wd_10, ⟨by decide, by decide⟩, by decide +kernel⟩, wd_476⟩
theorem gf_J5_15 : mh_fl RJ5 15 7 0 := ⟨RJ4, TJ4, 4, rfl, in_J4, by decide, trivial, Or.inl wd_479⟩
theorem pf_J5_15 : mh_fp RJ5 15 7 0 (.array .byte) false := ⟨RJ4, TJ4, 4, tyJ4, rfl, in_J4, by decide, trivial, Or.inl wd_479, tyJ4_ok, nmJ4, rfl, by decide +kernel, fun _ => rfl⟩
theorem gf_J5_22 : mh_fl RJ5 22 7 1 := ⟨RJ4, TJ4, 4, rfl, in_J4, by decide, trivial, Or.inl wd_480⟩
theorem pf_J5_22 : mh_fp RJ5 22 7 1 .byte false := ⟨RJ4, TJ4, 4, tyJ4, rfl, in_J4, by decide, trivial, Or.inl wd_480, tyJ4_ok, nmJ4, rfl, by decide +kernel, fun _ => rfl⟩
theorem gf_J0_1048 : mh_fl RJ0 1048 7 2 := ⟨RJ4, TJ4, 4, rfl, in_J4, by decide, trivial, Or.inl wd_481⟩
theorem pf_J0_1048 : mh_fp RJ0 1048 7 2 .boolean false := ⟨RJ4, TJ4, 4, tyJ4, rfl, in_J4, by decide, trivial, Or.inl wd_481, tyJ4_ok, nmJ4, rfl, by decide +kernel, fun h => by cases h⟩
theorem gf_J5_79 : mh_fl RJ5 79 7 3 := ⟨RJ4, TJ4, 4, rfl, in_J4, by decide, trivial, Or.inl wd_482⟩
theorem pf_J5_79 : mh_fp RJ5 79 7 3 .int false := ⟨RJ4, TJ4, 4, tyJ4, rfl, in_J4, by decide, trivial, Or.inl wd_482, tyJ4_ok, nmJ4, rfl, by decide +kernel, fun _ => rfl⟩
theorem cv_L_54 : mh_cv RL 54 yJ4_append_15ec4 1 := ⟨⟨Or.inl wd_493, wd_12, ⟨by decide, by decide⟩, by decide +kernel⟩, wd_494, wd_495⟩
theorem cC_J5_100 : mh_cvC RJ4 RJ5 100 yJ5_ensureCapacityInternal_d00df 1 := ⟨⟨Or.inl wd_504, wd_11, ⟨by decide, by decide⟩, by decide +kernel⟩, wd_506, wsS_0⟩
theorem cC_J5_104 : mh_cvC RJ4 RJ5 104 yJ5_newCapacity_0f7a4 1 := ⟨⟨Or.inl wd_508, wd_11, ⟨by decide, by decide⟩, by decide +kernel⟩, wd_510, wsS_1⟩
theorem cs_J5_114 : mh_cs RJ5 114 yJ8_newLength_cabcc 3 := ⟨⟨Or.inl wd_512, wd_13, ⟨by decide, by decide⟩, by decide +kernel⟩, wd_513⟩
theorem cs_J8_194 : mh_cs RJ8 194 yJ9_max_7cf53 2 := ⟨⟨Or.inl wd_515, wd_14, ⟨by decide, by decide⟩, by decide +kernel⟩, wd_80⟩
theorem cs_J8_201 : mh_cs RJ8 201 yJ8_hugeLength_7cf53 2 := ⟨⟨Or.inl wd_517, wd_13, ⟨by decide, by decide⟩, by decide +kernel⟩, wd_518⟩
theorem cs_J5_108 : mh_cs RJ5 108 yJ7_copyOf_9075b 2 := ⟨⟨Or.inl wd_521, wd_15, ⟨by decide, by decide⟩, by decide +kernel⟩, wd_522⟩
theorem cs_J7_304 : mh_cs RJ7 304 yJ9_min_7cf53 2 := ⟨⟨Or.inl wd_531, wd_14, ⟨by decide, by decide⟩, by decide +kernel⟩, wd_88⟩
theorem cC_J5_83 : mh_cvC RJ4 RJ5 83 yJ5_isLatin1_aae02 0 := ⟨⟨Or.inl wd_535, wd_11, ⟨by decide, by decide⟩, by decide +kernel⟩, wd_536, wd_538⟩
theorem cs_J5_226 : mh_cs RJ5 226 yJ2_putCharsAt_cd4e5 6 := ⟨⟨Or.inl wd_540, wd_10, ⟨by decide, by decide⟩, by decide +kernel⟩, wd_541⟩
theorem cs_J2_96 : mh_cs RJ2 96 yJ2_checkBoundsBeginEnd_d044e 3 := ⟨⟨Or.inl wd_543, wd_10, ⟨by decide, by decide⟩, by decide +kernel⟩, wd_544⟩
theorem cs_J2_241 : mh_cs RJ2 241 yJ0_checkBoundsBeginEnd_23922 3 := ⟨⟨Or.inl wd_546, wd_7, ⟨by decide, by decide⟩, by decide +kernel⟩, wd_547⟩
theorem cs_J0_1062 : mh_cs RJ0 1062 yJ3_checkFromToIndex_8c36e 4 := ⟨⟨Or.inl wd_549, wd_9, ⟨by decide, by decide⟩, by decide +kernel⟩, wd_550⟩
theorem cs_J2_111 : mh_cs RJ2 111 yJ2_putChar_b72d1 3 := ⟨⟨Or.inl wd_552, wd_10, ⟨by decide, by decide⟩, by decide +kernel⟩, wd_553⟩
theorem cv_J5_32 : mh_cv RJ5 32 yJ0_length_8abf5 0 := ⟨⟨Or.inl wd_555, wd_7, ⟨by decide, by decide⟩, by decide +kernel⟩, wd_296, wd_297⟩
theorem cC_J5_208 : mh_cvC RJ4 RJ5 208 yJ5_putStringAt_47b60 2 := ⟨⟨Or.inl wd_556, wd_11, ⟨by decide, by decide⟩, by decide +kernel⟩, wd_558, wsS_2⟩
theorem cC_J5_397 : mh_cvC RJ4 RJ5 397 yJ5_inflateIfNeededFor_a7421 1 := ⟨⟨Or.inl wd_560, wd_11, ⟨by decide, by decide⟩, by decide +kernel⟩, wd_562, wsS_3⟩
theorem cv_J5_40 : mh_cv RJ5 40 yJ0_coder_7d493 0 := ⟨⟨Or.inl wd_564, wd_7, ⟨by decide, by decide⟩, by decide +kernel⟩, wd_300, wd_301⟩
theorem cs_J5_125 : mh_cs RJ5 125 yJ1_inflate_0e8fd 5 := ⟨⟨Or.inl wd_569, wd_8, ⟨by decide, by decide⟩, by decide +kernel⟩, wd_570⟩
theorem cs_J1_240 : mh_cs RJ1 240 yJ2_inflate_0e8fd 5 := ⟨⟨Or.inl wd_572, wd_10, ⟨by decide, by decide⟩, by decide +kernel⟩, wd_573⟩
theorem cs_J2_173 : mh_cs RJ2 173 yJ2_checkBoundsOffCount_d044e 3 := ⟨⟨Or.inl wd_575, wd_10, ⟨by decide, by decide⟩, by decide +kernel⟩, wd_576⟩
theorem cs_J2_419 : mh_cs RJ2 419 yJ0_checkBoundsOffCount_cabcc 3 := ⟨⟨Or.inl wd_578, wd_7, ⟨by decide, by decide⟩, by decide +kernel⟩, wd_579⟩
theorem cs_J0_1065 : mh_cs RJ0 1065 yJ3_checkFromIndexSize_8c36e 4 := ⟨⟨Or.inl wd_581, wd_9, ⟨by decide, by decide⟩, by decide +kernel⟩, wd_582⟩
theorem cv_J5_399 : mh_cv RJ5 399 yJ0_getBytes_840e7 3 := ⟨⟨Or.inl wd_584, wd_7, ⟨by decide, by decide⟩, by decide +kernel⟩, wd_585, wd_586⟩
theorem cs_J0_106 : mh_cs RJ0 106 yJ1_inflate_0e8fd 5 := ⟨⟨Or.inl wd_589, wd_8, ⟨by decide, by decide⟩, by decide +kernel⟩, wd_570⟩
theorem cv_L_61 : mh_cv RL 61 yJ4_append_bf812 1 := ⟨⟨Or.inl wd_590, wd_12, ⟨by decide, by decide⟩, by decide +kernel⟩, wd_591, wd_592⟩
theorem cs_J5_245 : mh_cs RJ5 245 yJ6_stringSize_0f7a4 1 := ⟨⟨Or.inl wd_597, wd_17, ⟨by decide, by decide⟩, by decide +kernel⟩, wd_598⟩
theorem cs_J5_248 : mh_cs RJ5 248 yJ6_getChars_ba4f3 3 := ⟨⟨Or.inl wd_600, wd_17, ⟨by decide, by decide⟩, by decide +kernel⟩, wd_601⟩
theorem cs_J5_251 : mh_cs RJ5 251 yJ2_getChars_46870 4 := ⟨⟨Or.inl wd_607, wd_10, ⟨by decide, by decide⟩, by decide +kernel⟩, wd_608⟩
theorem cs_J2_393 : mh_cs RJ2 393 yJ2_getChars_ba4f3 3 := ⟨⟨Or.inl wd_610, wd_10, ⟨by decide, by decide⟩, by decide +kernel⟩, wd_611⟩
theorem cv_L_68 : mh_cv RL 68 yJ4_toString_0e30d 0 := ⟨⟨Or.inl wd_617, wd_12, ⟨by decide, by decide⟩, by decide +kernel⟩, wd_618, wd_619⟩
theorem ci_J4_137 : mh_ci RJ4 137 yJ0_init_81219 1 := ⟨⟨Or.inl wd_623, wd_7, ⟨by decide, by decide⟩, by decide +kernel⟩, wd_624, rfl⟩
theorem ci_J0_489 : mh_ci RJ0 489 yJ0_init_db425 2 := ⟨⟨Or.inl wd_626, wd_7, ⟨by decide, by decide⟩, by decide +kernel⟩, wd_627, rfl⟩
theorem cC_J0_552 : mh_cvC RJ4 RJ0 552 yJ5_getValue_6d5f1 0 := ⟨⟨Or.inl wd_630, wd_11, ⟨by decide, by decide⟩, by decide +kernel⟩, wd_631, wd_633⟩
theorem cC_J0_1047 : mh_cvC RJ4 RJ0 1047 yJ5_isLatin1_aae02 0 := ⟨⟨Or.inl wd_643, wd_11, ⟨by decide, by decide⟩, by decide +kernel⟩, wd_536, wd_538⟩
theorem cs_J0_54 : mh_cs RJ0 54 yJ7_copyOfRange_39247 3 := ⟨⟨Or.inl wd_644, wd_15, ⟨by decide, by decide⟩, by decide +kernel⟩, wd_645⟩
theorem cs_J7_339 : mh_cs RJ7 339 yJ7_copyOfRangeByte_39247 3 := ⟨⟨Or.inl wd_647, wd_15, ⟨by decide, by decide⟩, by decide +kernel⟩, wd_648⟩
theorem cs_J7_343 : mh_cs RJ7 343 yJ7_checkLength_df160 2 := ⟨⟨Or.inl wd_650, wd_15, ⟨by decide, by decide⟩, by decide +kernel⟩, wd_651⟩
theorem cs_J0_1051 : mh_cs RJ0 1051 yJ2_compress_39247 3 := ⟨⟨Or.inl wd_653, wd_10, ⟨by decide, by decide⟩, by decide +kernel⟩, wd_654⟩
theorem cs_J2_123 : mh_cs RJ2 123 yJ2_compress_5af95 5 := ⟨⟨Or.inl wd_656, wd_10, ⟨by decide, by decide⟩, by decide +kernel⟩, wd_657⟩
theorem cs_J2_126 : mh_cs RJ2 126 yJ7_copyOfRange_39247 3 := ⟨⟨Or.inl wd_659, wd_15, ⟨by decide, by decide⟩, by decide +kernel⟩, wd_645⟩
theorem cs_J0_47 : mh_cs RJ0 47 yJ2_coderFromArrayLen_85cad 2 := ⟨⟨Or.inl wd_660, wd_10, ⟨by decide, by decide⟩, by decide +kernel⟩, wd_661⟩
theorem gf_J0_9 : mh_fl RJ0 9 6 0 := ⟨RJ0, TJ0, 4, rfl, in_J0, by decide, trivial, Or.inl wd_663⟩
theorem pf_J0_9 : mh_fp RJ0 9 6 0 (.array .byte) true := ⟨RJ0, TJ0, 4, tyJ0, rfl, in_J0, by decide, trivial, Or.inl wd_663, tyJ0_ok, nmJ0, rfl, by decide +kernel, fun _ => rfl⟩
theorem gf_J0_15 : mh_fl RJ0 15 6 1 := ⟨RJ0, TJ0, 4, rfl, in_J0, by decide, trivial, Or.inl wd_664⟩
theorem pf_J0_15 : mh_fp RJ0 15 6 1 .byte true := ⟨RJ0, TJ0, 4, tyJ0, rfl, in_J0, by decide, trivial, Or.inl wd_664, tyJ0_ok, nmJ0, rfl, by decide +kernel, fun _ => rfl⟩
theorem cs_L_72 : mh_cs RL 72 yL_text 2 := ⟨⟨Or.inl wd_674, wd_0, ⟨by decide, by decide⟩, by decide +kernel⟩, wd_675⟩
theorem cv_L_7 : mh_cv RL 7 yJ0_length_8abf5 0 := ⟨⟨Or.inl wd_677, wd_7, ⟨by decide, by decide⟩, by decide +kernel⟩, wd_296, wd_297⟩
theorem cv_L_13 : mh_cv RL 13 yJ0_charAt_5068e 1 := ⟨⟨Or.inl wd_678, wd_7, ⟨by decide, by decide⟩, by decide +kernel⟩, wd_306, wd_307⟩
theorem cv_L_17 : mh_cv RL 17 yX5_feed 6 := ⟨⟨Or.inl wd_679, wd_1, ⟨by decide, by decide⟩, by decide +kernel⟩, wd_680, wd_681⟩
theorem cs_X5_93 : mh_cs RX5 93 yX5_isByte 1 := ⟨⟨Or.inl wd_683, wd_1, ⟨by decide, by decide⟩, by decide +kernel⟩, wd_684⟩
theorem cv_L_76 : mh_cv RL 76 yX5_text 0 := ⟨⟨Or.inl wd_686, wd_1, ⟨by decide, by decide⟩, by decide +kernel⟩, wd_687, wd_688⟩
theorem cv_L_78 : mh_cv RL 78 yX5_force 1 := ⟨⟨Or.inl wd_690, wd_1, ⟨by decide, by decide⟩, by decide +kernel⟩, wd_691, wd_692⟩
theorem cs_L_96 : mh_cs RL 96 yL_asks 5 := ⟨⟨Or.inl wd_694, wd_0, ⟨by decide, by decide⟩, by decide +kernel⟩, wd_695⟩
theorem cs_L_90 : mh_cs RL 90 yL_face 2 := ⟨⟨Or.inl wd_697, wd_0, ⟨by decide, by decide⟩, by decide +kernel⟩, wd_698⟩
theorem cs_L_93 : mh_cs RL 93 yL_held 2 := ⟨⟨Or.inl wd_700, wd_0, ⟨by decide, by decide⟩, by decide +kernel⟩, wd_701⟩
theorem cs_L_82 : mh_cs RL 82 yJ9_min_7cf53 2 := ⟨⟨Or.inl wd_703, wd_14, ⟨by decide, by decide⟩, by decide +kernel⟩, wd_88⟩
theorem cs_L_87 : mh_cs RL 87 yJ9_max_7cf53 2 := ⟨⟨Or.inl wd_704, wd_14, ⟨by decide, by decide⟩, by decide +kernel⟩, wd_80⟩
theorem cs_L_123 : mh_cs RL 123 yL_run 5 := ⟨⟨Or.inl wd_705, wd_0, ⟨by decide, by decide⟩, by decide +kernel⟩, wd_706⟩
theorem cs_L_102 : mh_cs RL 102 yL_keeps 2 := ⟨⟨Or.inl wd_709, wd_0, ⟨by decide, by decide⟩, by decide +kernel⟩, wd_710⟩
theorem cs_L_105 : mh_cs RL 105 yL_come 3 := ⟨⟨Or.inl wd_712, wd_0, ⟨by decide, by decide⟩, by decide +kernel⟩, wd_713⟩
theorem cs_L_113 : mh_cs RL 113 yL_through 2 := ⟨⟨Or.inl wd_715, wd_0, ⟨by decide, by decide⟩, by decide +kernel⟩, wd_716⟩
theorem cs_L_116 : mh_cs RL 116 yJ9_max_f86c9 2 := ⟨⟨Or.inl wd_718, wd_14, ⟨by decide, by decide⟩, by decide +kernel⟩, wd_719⟩
theorem cs_L_109 : mh_cs RL 109 yL_rubs 3 := ⟨⟨Or.inl wd_721, wd_0, ⟨by decide, by decide⟩, by decide +kernel⟩, wd_722⟩
