theorem ci_L_9 : mh_ci RL 9 yX5_init 0 := ⟨⟨Or.inl wd_18, wd_1, ⟨by decide, by decide⟩, by decide +kernel⟩, wd_19, rfl⟩
theorem ci_X5_9 : mh_ci RX5 9 yX1_init 0 := ⟨⟨Or.inr ⟨_, wd_26⟩, wd_2, ⟨by decide, by decide⟩, by decide +kernel⟩, wd_27, rfl⟩
theorem gf_X1_9 : mh_fl RX1 9 1 0 := ⟨RX1, TX1, 5, rfl, in_X1, by decide, rfl, Or.inl wd_30⟩
theorem pf_X1_9 : mh_fp RX1 9 1 0 (.array .int) true := ⟨RX1, TX1, 5, tyX1, rfl, in_X1, by decide, rfl, Or.inl wd_30, tyX1_ok, nmX1, rfl, by decide +kernel, fun _ => rfl⟩
theorem gf_X0_61 : mh_fl RX0 61 1 0 := ⟨RX1, TX1, 5, rfl, in_X1, by decide, rfl, Or.inr ⟨_, wd_31⟩⟩
theorem gf_X4_54 : mh_fl RX4 54 1 0 := ⟨RX1, TX1, 5, rfl, in_X1, by decide, rfl, Or.inr ⟨_, wd_32⟩⟩
theorem gf_X5_118 : mh_fl RX5 118 1 0 := ⟨RX1, TX1, 5, rfl, in_X1, by decide, rfl, Or.inr ⟨_, wd_33⟩⟩
theorem gf_X1_15 : mh_fl RX1 15 1 1 := ⟨RX1, TX1, 5, rfl, in_X1, by decide, rfl, Or.inl wd_34⟩
theorem pf_X1_15 : mh_fp RX1 15 1 1 (.array .int) true := ⟨RX1, TX1, 5, tyX1, rfl, in_X1, by decide, rfl, Or.inl wd_34, tyX1_ok, nmX1, rfl, by decide +kernel, fun _ => rfl⟩
theorem gf_X0_64 : mh_fl RX0 64 1 1 := ⟨RX1, TX1, 5, rfl, in_X1, by decide, rfl, Or.inr ⟨_, wd_35⟩⟩
theorem gf_X4_49 : mh_fl RX4 49 1 1 := ⟨RX1, TX1, 5, rfl, in_X1, by decide, rfl, Or.inr ⟨_, wd_36⟩⟩
theorem gf_X5_129 : mh_fl RX5 129 1 1 := ⟨RX1, TX1, 5, rfl, in_X1, by decide, rfl, Or.inr ⟨_, wd_37⟩⟩
theorem gf_X5_70 : mh_fl RX5 70 1 2 := ⟨RX1, TX1, 5, rfl, in_X1, by decide, rfl, Or.inr ⟨_, wd_38⟩⟩
theorem pf_X5_70 : mh_fp RX5 70 1 2 .long false := ⟨RX1, TX1, 5, tyX1, rfl, in_X1, by decide, rfl, Or.inr ⟨rfl, _, wd_38⟩, tyX1_ok, nmX1, rfl, by decide +kernel, fun h => by cases h⟩
theorem gf_X1_24 : mh_fl RX1 24 1 2 := ⟨RX1, TX1, 5, rfl, in_X1, by decide, rfl, Or.inl wd_39⟩
theorem pf_X1_24 : mh_fp RX1 24 1 2 .long false := ⟨RX1, TX1, 5, tyX1, rfl, in_X1, by decide, rfl, Or.inl wd_39, tyX1_ok, nmX1, rfl, by decide +kernel, fun _ => rfl⟩
theorem gf_X5_80 : mh_fl RX5 80 1 3 := ⟨RX1, TX1, 5, rfl, in_X1, by decide, rfl, Or.inr ⟨_, wd_40⟩⟩
theorem pf_X5_80 : mh_fp RX5 80 1 3 .long false := ⟨RX1, TX1, 5, tyX1, rfl, in_X1, by decide, rfl, Or.inr ⟨rfl, _, wd_40⟩, tyX1_ok, nmX1, rfl, by decide +kernel, fun h => by cases h⟩
theorem gf_X1_28 : mh_fl RX1 28 1 3 := ⟨RX1, TX1, 5, rfl, in_X1, by decide, rfl, Or.inl wd_41⟩
theorem pf_X1_28 : mh_fp RX1 28 1 3 .long false := ⟨RX1, TX1, 5, tyX1, rfl, in_X1, by decide, rfl, Or.inl wd_41, tyX1_ok, nmX1, rfl, by decide +kernel, fun _ => rfl⟩
theorem gf_X4_61 : mh_fl RX4 61 1 3 := ⟨RX1, TX1, 5, rfl, in_X1, by decide, rfl, Or.inr ⟨_, wd_42⟩⟩
theorem pf_X4_61 : mh_fp RX4 61 1 3 .long false := ⟨RX1, TX1, 5, tyX1, rfl, in_X1, by decide, rfl, Or.inr ⟨rfl, _, wd_42⟩, tyX1_ok, nmX1, rfl, by decide +kernel, fun h => by cases h⟩
theorem gf_X5_87 : mh_fl RX5 87 1 4 := ⟨RX1, TX1, 5, rfl, in_X1, by decide, rfl, Or.inr ⟨_, wd_43⟩⟩
theorem pf_X5_87 : mh_fp RX5 87 1 4 .int false := ⟨RX1, TX1, 5, tyX1, rfl, in_X1, by decide, rfl, Or.inr ⟨rfl, _, wd_43⟩, tyX1_ok, nmX1, rfl, by decide +kernel, fun h => by cases h⟩
theorem gf_X1_31 : mh_fl RX1 31 1 4 := ⟨RX1, TX1, 5, rfl, in_X1, by decide, rfl, Or.inl wd_44⟩
theorem pf_X1_31 : mh_fp RX1 31 1 4 .int false := ⟨RX1, TX1, 5, tyX1, rfl, in_X1, by decide, rfl, Or.inl wd_44, tyX1_ok, nmX1, rfl, by decide +kernel, fun _ => rfl⟩
theorem ci_X5_21 : mh_ci RX5 21 yX3_init 0 := ⟨⟨Or.inr ⟨_, wd_59⟩, wd_3, ⟨by decide, by decide⟩, by decide +kernel⟩, wd_60, rfl⟩
theorem gf_X3_9 : mh_fl RX3 9 3 0 := ⟨RX3, TX3, 7, rfl, in_X3, by decide, rfl, Or.inl wd_63⟩
theorem pf_X3_9 : mh_fp RX3 9 3 0 (.array .int) true := ⟨RX3, TX3, 7, tyX3, rfl, in_X3, by decide, rfl, Or.inl wd_63, tyX3_ok, nmX3, rfl, by decide +kernel, fun _ => rfl⟩
theorem gf_X3_15 : mh_fl RX3 15 3 1 := ⟨RX3, TX3, 7, rfl, in_X3, by decide, rfl, Or.inl wd_64⟩
theorem pf_X3_15 : mh_fp RX3 15 3 1 .int false := ⟨RX3, TX3, 7, tyX3, rfl, in_X3, by decide, rfl, Or.inl wd_64, tyX3_ok, nmX3, rfl, by decide +kernel, fun _ => rfl⟩
theorem gf_X5_90 : mh_fl RX5 90 3 1 := ⟨RX3, TX3, 7, rfl, in_X3, by decide, rfl, Or.inr ⟨_, wd_65⟩⟩
theorem pf_X5_90 : mh_fp RX5 90 3 1 .int false := ⟨RX3, TX3, 7, tyX3, rfl, in_X3, by decide, rfl, Or.inr ⟨rfl, _, wd_65⟩, tyX3_ok, nmX3, rfl, by decide +kernel, fun h => by cases h⟩
theorem gf_X3_28 : mh_fl RX3 28 3 2 := ⟨RX3, TX3, 7, rfl, in_X3, by decide, rfl, Or.inl wd_66⟩
theorem pf_X3_28 : mh_fp RX3 28 3 2 .int false := ⟨RX3, TX3, 7, tyX3, rfl, in_X3, by decide, rfl, Or.inl wd_66, tyX3_ok, nmX3, rfl, by decide +kernel, fun _ => rfl⟩
theorem gf_X3_37 : mh_fl RX3 37 3 3 := ⟨RX3, TX3, 7, rfl, in_X3, by decide, rfl, Or.inl wd_67⟩
theorem pf_X3_37 : mh_fp RX3 37 3 3 .int false := ⟨RX3, TX3, 7, tyX3, rfl, in_X3, by decide, rfl, Or.inl wd_67, tyX3_ok, nmX3, rfl, by decide +kernel, fun _ => rfl⟩
theorem gf_X3_34 : mh_fl RX3 34 3 4 := ⟨RX3, TX3, 7, rfl, in_X3, by decide, rfl, Or.inl wd_68⟩
theorem pf_X3_34 : mh_fp RX3 34 3 4 .int false := ⟨RX3, TX3, 7, tyX3, rfl, in_X3, by decide, rfl, Or.inl wd_68, tyX3_ok, nmX3, rfl, by decide +kernel, fun _ => rfl⟩
theorem gf_X3_61 : mh_fl RX3 61 3 5 := ⟨RX3, TX3, 7, rfl, in_X3, by decide, rfl, Or.inl wd_69⟩
theorem pf_X3_61 : mh_fp RX3 61 3 5 .int false := ⟨RX3, TX3, 7, tyX3, rfl, in_X3, by decide, rfl, Or.inl wd_69, tyX3_ok, nmX3, rfl, by decide +kernel, fun _ => rfl⟩
theorem gf_X3_19 : mh_fl RX3 19 3 6 := ⟨RX3, TX3, 7, rfl, in_X3, by decide, rfl, Or.inl wd_70⟩
theorem pf_X3_19 : mh_fp RX3 19 3 6 (.object RX4) false := ⟨RX3, TX3, 7, tyX3, rfl, in_X3, by decide, rfl, Or.inl wd_70, tyX3_ok, nmX3, rfl, by decide +kernel, fun _ => rfl⟩
theorem ci_X5_34 : mh_ci RX5 34 yX0_init 0 := ⟨⟨Or.inr ⟨_, wd_90⟩, wd_4, ⟨by decide, by decide⟩, by decide +kernel⟩, wd_91, rfl⟩
theorem gf_X0_9 : mh_fl RX0 9 0 0 := ⟨RX0, TX0, 3, rfl, in_X0, by decide, rfl, Or.inl wd_94⟩
theorem pf_X0_9 : mh_fp RX0 9 0 0 (.array .int) true := ⟨RX0, TX0, 3, tyX0, rfl, in_X0, by decide, rfl, Or.inl wd_94, tyX0_ok, nmX0, rfl, by decide +kernel, fun _ => rfl⟩
theorem gf_X5_179 : mh_fl RX5 179 0 0 := ⟨RX0, TX0, 3, rfl, in_X0, by decide, rfl, Or.inr ⟨_, wd_95⟩⟩
theorem gf_X0_15 : mh_fl RX0 15 0 1 := ⟨RX0, TX0, 3, rfl, in_X0, by decide, rfl, Or.inl wd_96⟩
theorem pf_X0_15 : mh_fp RX0 15 0 1 .long false := ⟨RX0, TX0, 3, tyX0, rfl, in_X0, by decide, rfl, Or.inl wd_96, tyX0_ok, nmX0, rfl, by decide +kernel, fun _ => rfl⟩
theorem gf_X5_167 : mh_fl RX5 167 0 1 := ⟨RX0, TX0, 3, rfl, in_X0, by decide, rfl, Or.inr ⟨_, wd_97⟩⟩
theorem pf_X5_167 : mh_fp RX5 167 0 1 .long false := ⟨RX0, TX0, 3, tyX0, rfl, in_X0, by decide, rfl, Or.inr ⟨rfl, _, wd_97⟩, tyX0_ok, nmX0, rfl, by decide +kernel, fun h => by cases h⟩
theorem gf_X0_19 : mh_fl RX0 19 0 2 := ⟨RX0, TX0, 3, rfl, in_X0, by decide, rfl, Or.inl wd_98⟩
theorem pf_X0_19 : mh_fp RX0 19 0 2 .long false := ⟨RX0, TX0, 3, tyX0, rfl, in_X0, by decide, rfl, Or.inl wd_98, tyX0_ok, nmX0, rfl, by decide +kernel, fun _ => rfl⟩
theorem gf_X5_176 : mh_fl RX5 176 0 2 := ⟨RX0, TX0, 3, rfl, in_X0, by decide, rfl, Or.inr ⟨_, wd_99⟩⟩
theorem pf_X5_176 : mh_fp RX5 176 0 2 .long false := ⟨RX0, TX0, 3, tyX0, rfl, in_X0, by decide, rfl, Or.inr ⟨rfl, _, wd_99⟩, tyX0_ok, nmX0, rfl, by decide +kernel, fun h => by cases h⟩
theorem ci_X5_49 : mh_ci RX5 49 yX4_init 0 := ⟨⟨Or.inr ⟨_, wd_110⟩, wd_5, ⟨by decide, by decide⟩, by decide +kernel⟩, wd_111, rfl⟩
theorem gf_X4_9 : mh_fl RX4 9 4 0 := ⟨RX4, TX4, 5, rfl, in_X4, by decide, rfl, Or.inl wd_114⟩
theorem pf_X4_9 : mh_fp RX4 9 4 0 (.array .int) true := ⟨RX4, TX4, 5, tyX4, rfl, in_X4, by decide, rfl, Or.inl wd_114, tyX4_ok, nmX4, rfl, by decide +kernel, fun _ => rfl⟩
theorem gf_X4_21 : mh_fl RX4 21 4 1 := ⟨RX4, TX4, 5, rfl, in_X4, by decide, rfl, Or.inl wd_115⟩
theorem pf_X4_21 : mh_fp RX4 21 4 1 .int false := ⟨RX4, TX4, 5, tyX4, rfl, in_X4, by decide, rfl, Or.inl wd_115, tyX4_ok, nmX4, rfl, by decide +kernel, fun _ => rfl⟩
theorem gf_X4_15 : mh_fl RX4 15 4 2 := ⟨RX4, TX4, 5, rfl, in_X4, by decide, rfl, Or.inl wd_116⟩
theorem pf_X4_15 : mh_fp RX4 15 4 2 (.array .int) true := ⟨RX4, TX4, 5, tyX4, rfl, in_X4, by decide, rfl, Or.inl wd_116, tyX4_ok, nmX4, rfl, by decide +kernel, fun _ => rfl⟩
theorem gf_X4_18 : mh_fl RX4 18 4 3 := ⟨RX4, TX4, 5, rfl, in_X4, by decide, rfl, Or.inl wd_117⟩
theorem pf_X4_18 : mh_fp RX4 18 4 3 (.array .int) true := ⟨RX4, TX4, 5, tyX4, rfl, in_X4, by decide, rfl, Or.inl wd_117, tyX4_ok, nmX4, rfl, by decide +kernel, fun _ => rfl⟩
theorem gf_X4_25 : mh_fl RX4 25 4 4 := ⟨RX4, TX4, 5, rfl, in_X4, by decide, rfl, Or.inl wd_118⟩
theorem pf_X4_25 : mh_fp RX4 25 4 4 .int false := ⟨RX4, TX4, 5, tyX4, rfl, in_X4, by decide, rfl, Or.inl wd_118, tyX4_ok, nmX4, rfl, by decide +kernel, fun _ => rfl⟩
theorem ci_X5_50 : mh_ci RX5 50 yX2_init 0 := ⟨⟨Or.inr ⟨_, wd_132⟩, wd_6, ⟨by decide, by decide⟩, by decide +kernel⟩, wd_133, rfl⟩
theorem gf_X2_9 : mh_fl RX2 9 2 0 := ⟨RX2, TX2, 3, rfl, in_X2, by decide, rfl, Or.inl wd_136⟩
theorem pf_X2_9 : mh_fp RX2 9 2 0 (.array .int) true := ⟨RX2, TX2, 3, tyX2, rfl, in_X2, by decide, rfl, Or.inl wd_136, tyX2_ok, nmX2, rfl, by decide +kernel, fun _ => rfl⟩
theorem gf_X5_202 : mh_fl RX5 202 2 0 := ⟨RX2, TX2, 3, rfl, in_X2, by decide, rfl, Or.inr ⟨_, wd_137⟩⟩
theorem gf_X2_15 : mh_fl RX2 15 2 1 := ⟨RX2, TX2, 3, rfl, in_X2, by decide, rfl, Or.inl wd_138⟩
theorem pf_X2_15 : mh_fp RX2 15 2 1 .int false := ⟨RX2, TX2, 3, tyX2, rfl, in_X2, by decide, rfl, Or.inl wd_138, tyX2_ok, nmX2, rfl, by decide +kernel, fun _ => rfl⟩
theorem gf_X5_251 : mh_fl RX5 251 2 1 := ⟨RX2, TX2, 3, rfl, in_X2, by decide, rfl, Or.inr ⟨_, wd_139⟩⟩
theorem pf_X5_251 : mh_fp RX5 251 2 1 .int false := ⟨RX2, TX2, 3, tyX2, rfl, in_X2, by decide, rfl, Or.inr ⟨rfl, _, wd_139⟩, tyX2_ok, nmX2, rfl, by decide +kernel, fun h => by cases h⟩
theorem gf_X2_19 : mh_fl RX2 19 2 2 := ⟨RX2, TX2, 3, rfl, in_X2, by decide, rfl, Or.inl wd_140⟩
theorem pf_X2_19 : mh_fp RX2 19 2 2 .int false := ⟨RX2, TX2, 3, tyX2, rfl, in_X2, by decide, rfl, Or.inl wd_140, tyX2_ok, nmX2, rfl, by decide +kernel, fun _ => rfl⟩
theorem gf_X5_250 : mh_fl RX5 250 2 2 := ⟨RX2, TX2, 3, rfl, in_X2, by decide, rfl, Or.inr ⟨_, wd_141⟩⟩
theorem pf_X5_250 : mh_fp RX5 250 2 2 .int false := ⟨RX2, TX2, 3, tyX2, rfl, in_X2, by decide, rfl, Or.inr ⟨rfl, _, wd_141⟩, tyX2_ok, nmX2, rfl, by decide +kernel, fun h => by cases h⟩
theorem cv_X5_53 : mh_cv RX5 53 yJ0_length_8abf5 0 := ⟨⟨Or.inl wd_150, wd_7, ⟨by decide, by decide⟩, by decide +kernel⟩, wd_151, wd_152⟩
theorem cv_J0_335 : mh_cv RJ0 335 yJ0_coder_7d493 0 := ⟨⟨Or.inl wd_154, wd_7, ⟨by decide, by decide⟩, by decide +kernel⟩, wd_155, wd_156⟩
theorem cv_X5_59 : mh_cv RX5 59 yJ0_charAt_5068e 1 := ⟨⟨Or.inl wd_160, wd_7, ⟨by decide, by decide⟩, by decide +kernel⟩, wd_161, wd_162⟩
theorem cv_J0_492 : mh_cv RJ0 492 yJ0_isLatin1_aae02 0 := ⟨⟨Or.inl wd_164, wd_7, ⟨by decide, by decide⟩, by decide +kernel⟩, wd_165, wd_166⟩
theorem cs_J0_495 : mh_cs RJ0 495 yJ1_charAt_3b067 2 := ⟨⟨Or.inl wd_168, wd_8, ⟨by decide, by decide⟩, by decide +kernel⟩, wd_169⟩
theorem cs_J1_9 : mh_cs RJ1 9 yJ0_checkIndex_df160 2 := ⟨⟨Or.inl wd_171, wd_7, ⟨by decide, by decide⟩, by decide +kernel⟩, wd_172⟩
theorem cs_J0_1059 : mh_cs RJ0 1059 yJ3_checkIndex_8e157 3 := ⟨⟨Or.inl wd_176, wd_9, ⟨by decide, by decide⟩, by decide +kernel⟩, wd_177⟩
theorem cs_J0_498 : mh_cs RJ0 498 yJ2_charAt_3b067 2 := ⟨⟨Or.inl wd_179, wd_10, ⟨by decide, by decide⟩, by decide +kernel⟩, wd_180⟩
theorem cs_J2_67 : mh_cs RJ2 67 yJ2_checkIndex_2214a 2 := ⟨⟨Or.inl wd_182, wd_10, ⟨by decide, by decide⟩, by decide +kernel⟩, wd_183⟩
theorem cs_J2_48 : mh_cs RJ2 48 yJ2_length_9d52b 1 := ⟨⟨Or.inl wd_185, wd_10, ⟨by decide, by decide⟩, by decide +kernel⟩, wd_186⟩
theorem cs_J2_414 : mh_cs RJ2 414 yJ0_checkIndex_df160 2 := ⟨⟨Or.inl wd_188, wd_7, ⟨by decide, by decide⟩, by decide +kernel⟩, wd_172⟩
theorem cs_J2_71 : mh_cs RJ2 71 yJ2_getChar_3b067 2 := ⟨⟨Or.inl wd_189, wd_10, ⟨by decide, by decide⟩, by decide +kernel⟩, wd_190⟩
theorem cv_X5_63 : mh_cv RX5 63 yX3_add 1 := ⟨⟨Or.inr ⟨_, wd_198⟩, wd_3, ⟨by decide, by decide⟩, by decide +kernel⟩, wd_200, ws_0⟩
theorem cv_X5_67 : mh_cv RX5 67 yX5_readTape 0 := ⟨⟨Or.inl wd_202, wd_1, ⟨by decide, by decide⟩, by decide +kernel⟩, wd_204, ws_1⟩
theorem cv_X5_280 : mh_cv RX5 280 yX3_readInto 1 := ⟨⟨Or.inr ⟨_, wd_206⟩, wd_3, ⟨by decide, by decide⟩, by decide +kernel⟩, wd_208, ws_2⟩
theorem cv_X3_23 : mh_cv RX3 23 yX4_clear 0 := ⟨⟨Or.inr ⟨_, wd_210⟩, wd_5, ⟨by decide, by decide⟩, by decide +kernel⟩, wd_212, ws_3⟩
theorem cv_X3_31 : mh_cv RX3 31 yX3_advance 0 := ⟨⟨Or.inl wd_214, wd_3, ⟨by decide, by decide⟩, by decide +kernel⟩, wd_216, ws_4⟩
theorem cs_X3_71 : mh_cs RX3 71 yX3_isLetter 1 := ⟨⟨Or.inl wd_218, wd_3, ⟨by decide, by decide⟩, by decide +kernel⟩, wd_219⟩
theorem cs_X3_64 : mh_cs RX3 64 yX5_within 3 := ⟨⟨Or.inr ⟨_, wd_221⟩, wd_1, ⟨by decide, by decide⟩, by decide +kernel⟩, wd_222⟩
theorem cv_X3_74 : mh_cv RX3 74 yX3_wordToken 1 := ⟨⟨Or.inl wd_224, wd_3, ⟨by decide, by decide⟩, by decide +kernel⟩, wd_226, ws_5⟩
theorem cv_X3_86 : mh_cv RX3 86 yJ0_length_8abf5 0 := ⟨⟨Or.inl wd_229, wd_7, ⟨by decide, by decide⟩, by decide +kernel⟩, wd_151, wd_152⟩
theorem cv_X3_92 : mh_cv RX3 92 yJ0_charAt_5068e 1 := ⟨⟨Or.inl wd_230, wd_7, ⟨by decide, by decide⟩, by decide +kernel⟩, wd_161, wd_162⟩
theorem cv_X3_96 : mh_cv RX3 96 yX3_standsAt 2 := ⟨⟨Or.inl wd_231, wd_3, ⟨by decide, by decide⟩, by decide +kernel⟩, wd_233, ws_6⟩
theorem cs_X3_78 : mh_cs RX3 78 yX3_isDigit 1 := ⟨⟨Or.inl wd_235, wd_3, ⟨by decide, by decide⟩, by decide +kernel⟩, wd_236⟩
theorem cs_X3_81 : mh_cs RX3 81 yX3_isSign 1 := ⟨⟨Or.inl wd_238, wd_3, ⟨by decide, by decide⟩, by decide +kernel⟩, wd_239⟩
theorem cv_X3_40 : mh_cv RX3 40 yX3_chain 2 := ⟨⟨Or.inl wd_241, wd_3, ⟨by decide, by decide⟩, by decide +kernel⟩, wd_243, ws_7⟩
theorem cv_X3_48 : mh_cv RX3 48 yX3_one 1 := ⟨⟨Or.inl wd_245, wd_3, ⟨by decide, by decide⟩, by decide +kernel⟩, wd_247, ws_8⟩
theorem cv_X3_58 : mh_cv RX3 58 yX4_add 1 := ⟨⟨Or.inr ⟨_, wd_249⟩, wd_5, ⟨by decide, by decide⟩, by decide +kernel⟩, wd_251, ws_9⟩
theorem cv_X3_68 : mh_cv RX3 68 yX3_opened 1 := ⟨⟨Or.inl wd_253, wd_3, ⟨by decide, by decide⟩, by decide +kernel⟩, wd_255, ws_10⟩
theorem cv_X3_52 : mh_cv RX3 52 yX3_negation 1 := ⟨⟨Or.inl wd_257, wd_3, ⟨by decide, by decide⟩, by decide +kernel⟩, wd_259, ws_11⟩
theorem cs_X3_55 : mh_cs RX3 55 yX3_joins 2 := ⟨⟨Or.inl wd_261, wd_3, ⟨by decide, by decide⟩, by decide +kernel⟩, wd_262⟩
theorem cv_X3_44 : mh_cv RX3 44 yX4_endPart 1 := ⟨⟨Or.inr ⟨_, wd_264⟩, wd_5, ⟨by decide, by decide⟩, by decide +kernel⟩, wd_266, ws_12⟩
theorem gf_X5_10 : mh_fl RX5 10 5 0 := ⟨RX5, TX5, 9, rfl, in_X5, by decide, rfl, Or.inl wd_268⟩
theorem pf_X5_10 : mh_fp RX5 10 5 0 (.object RX1) true := ⟨RX5, TX5, 9, tyX5, rfl, in_X5, by decide, rfl, Or.inl wd_268, tyX5_ok, nmX5, rfl, by decide +kernel, fun _ => rfl⟩
theorem gf_X5_16 : mh_fl RX5 16 5 1 := ⟨RX5, TX5, 9, rfl, in_X5, by decide, rfl, Or.inl wd_269⟩
theorem pf_X5_16 : mh_fp RX5 16 5 1 (.object RX1) true := ⟨RX5, TX5, 9, tyX5, rfl, in_X5, by decide, rfl, Or.inl wd_269, tyX5_ok, nmX5, rfl, by decide +kernel, fun _ => rfl⟩
theorem gf_X5_242 : mh_fl RX5 242 5 2 := ⟨RX5, TX5, 9, rfl, in_X5, by decide, rfl, Or.inl wd_270⟩
theorem pf_X5_242 : mh_fp RX5 242 5 2 .boolean false := ⟨RX5, TX5, 9, tyX5, rfl, in_X5, by decide, rfl, Or.inl wd_270, tyX5_ok, nmX5, rfl, by decide +kernel, fun _ => rfl⟩
theorem gf_X5_22 : mh_fl RX5 22 5 3 := ⟨RX5, TX5, 9, rfl, in_X5, by decide, rfl, Or.inl wd_271⟩
theorem pf_X5_22 : mh_fp RX5 22 5 3 (.object RX3) true := ⟨RX5, TX5, 9, tyX5, rfl, in_X5, by decide, rfl, Or.inl wd_271, tyX5_ok, nmX5, rfl, by decide +kernel, fun _ => rfl⟩
theorem gf_X5_28 : mh_fl RX5 28 5 4 := ⟨RX5, TX5, 9, rfl, in_X5, by decide, rfl, Or.inl wd_272⟩
theorem pf_X5_28 : mh_fp RX5 28 5 4 (.array (.object RX4)) true := ⟨RX5, TX5, 9, tyX5, rfl, in_X5, by decide, rfl, Or.inl wd_272, tyX5_ok, nmX5, rfl, by decide +kernel, fun _ => rfl⟩
theorem gf_X5_83 : mh_fl RX5 83 5 5 := ⟨RX5, TX5, 9, rfl, in_X5, by decide, rfl, Or.inl wd_273⟩
theorem pf_X5_83 : mh_fp RX5 83 5 5 .int false := ⟨RX5, TX5, 9, tyX5, rfl, in_X5, by decide, rfl, Or.inl wd_273, tyX5_ok, nmX5, rfl, by decide +kernel, fun _ => rfl⟩
theorem gf_X5_35 : mh_fl RX5 35 5 6 := ⟨RX5, TX5, 9, rfl, in_X5, by decide, rfl, Or.inl wd_274⟩
theorem pf_X5_35 : mh_fp RX5 35 5 6 (.object RX0) true := ⟨RX5, TX5, 9, tyX5, rfl, in_X5, by decide, rfl, Or.inl wd_274, tyX5_ok, nmX5, rfl, by decide +kernel, fun _ => rfl⟩
theorem gf_X5_41 : mh_fl RX5 41 5 7 := ⟨RX5, TX5, 9, rfl, in_X5, by decide, rfl, Or.inl wd_275⟩
theorem pf_X5_41 : mh_fp RX5 41 5 7 (.array (.object RX2)) true := ⟨RX5, TX5, 9, tyX5, rfl, in_X5, by decide, rfl, Or.inl wd_275, tyX5_ok, nmX5, rfl, by decide +kernel, fun _ => rfl⟩
theorem gf_X5_45 : mh_fl RX5 45 5 8 := ⟨RX5, TX5, 9, rfl, in_X5, by decide, rfl, Or.inl wd_276⟩
theorem pf_X5_45 : mh_fp RX5 45 5 8 (.array .long) true := ⟨RX5, TX5, 9, tyX5, rfl, in_X5, by decide, rfl, Or.inl wd_276, tyX5_ok, nmX5, rfl, by decide +kernel, fun _ => rfl⟩
theorem cv_L_13 : mh_cv RL 13 yX5_count 1 := ⟨⟨Or.inl wd_297, wd_1, ⟨by decide, by decide⟩, by decide +kernel⟩, wd_298, wd_299⟩
theorem cs_X5_74 : mh_cs RX5 74 yJ13_bitCount_95d88 1 := ⟨⟨Or.inl wd_301, wd_12, ⟨by decide, by decide⟩, by decide +kernel⟩, wd_302⟩
theorem cv_L_18 : mh_cv RL 18 yX5_feed 6 := ⟨⟨Or.inl wd_307, wd_1, ⟨by decide, by decide⟩, by decide +kernel⟩, wd_308, wd_309⟩
theorem cs_X5_93 : mh_cs RX5 93 yX5_isByte 1 := ⟨⟨Or.inl wd_311, wd_1, ⟨by decide, by decide⟩, by decide +kernel⟩, wd_312⟩
theorem cs_X5_97 : mh_cs RX5 97 yX5_within 3 := ⟨⟨Or.inl wd_314, wd_1, ⟨by decide, by decide⟩, by decide +kernel⟩, wd_222⟩
theorem cv_L_23 : mh_cv RL 23 yX5_text 0 := ⟨⟨Or.inl wd_315, wd_1, ⟨by decide, by decide⟩, by decide +kernel⟩, wd_316, wd_317⟩
theorem cv_L_28 : mh_cv RL 28 yX5_force 1 := ⟨⟨Or.inl wd_319, wd_1, ⟨by decide, by decide⟩, by decide +kernel⟩, wd_320, wd_321⟩
theorem cv_L_32 : mh_cv RL 32 yX5_asks 3 := ⟨⟨Or.inl wd_323, wd_1, ⟨by decide, by decide⟩, by decide +kernel⟩, wd_324, wd_325⟩
theorem cs_X5_101 : mh_cs RX5 101 yX5_isLoop 1 := ⟨⟨Or.inl wd_327, wd_1, ⟨by decide, by decide⟩, by decide +kernel⟩, wd_328⟩
theorem cs_X5_104 : mh_cs RX5 104 yX5_isPull 1 := ⟨⟨Or.inl wd_330, wd_1, ⟨by decide, by decide⟩, by decide +kernel⟩, wd_331⟩
theorem cv_X5_107 : mh_cv RX5 107 yX5_law 0 := ⟨⟨Or.inl wd_333, wd_1, ⟨by decide, by decide⟩, by decide +kernel⟩, wd_335, ws_13⟩
theorem cv_X5_110 : mh_cv RX5 110 yX4_says 4 := ⟨⟨Or.inr ⟨_, wd_337⟩, wd_5, ⟨by decide, by decide⟩, by decide +kernel⟩, wd_339, ws_14⟩
theorem cs_X4_28 : mh_cs RX4 28 yJ9_min_7cf53 2 := ⟨⟨Or.inl wd_341, wd_13, ⟨by decide, by decide⟩, by decide +kernel⟩, wd_342⟩
theorem cv_X4_34 : mh_cv RX4 34 yX4_take 4 := ⟨⟨Or.inl wd_344, wd_5, ⟨by decide, by decide⟩, by decide +kernel⟩, wd_346, ws_15⟩
theorem cv_X4_45 : mh_cv RX4 45 yX4_push 1 := ⟨⟨Or.inl wd_348, wd_5, ⟨by decide, by decide⟩, by decide +kernel⟩, wd_350, ws_16⟩
theorem cs_X4_57 : mh_cs RX4 57 yX5_faceOf 1 := ⟨⟨Or.inr ⟨_, wd_352⟩, wd_1, ⟨by decide, by decide⟩, by decide +kernel⟩, wd_353⟩
theorem cs_X4_65 : mh_cs RX4 65 yX5_hasBit 2 := ⟨⟨Or.inr ⟨_, wd_355⟩, wd_1, ⟨by decide, by decide⟩, by decide +kernel⟩, wd_356⟩
theorem cv_X4_38 : mh_cv RX4 38 yX4_pop 0 := ⟨⟨Or.inl wd_358, wd_5, ⟨by decide, by decide⟩, by decide +kernel⟩, wd_360, ws_17⟩
theorem cs_X4_69 : mh_cs RX4 69 yX4_joined 3 := ⟨⟨Or.inl wd_362, wd_5, ⟨by decide, by decide⟩, by decide +kernel⟩, wd_363⟩
theorem cs_X4_42 : mh_cs RX4 42 yX5_bounded 2 := ⟨⟨Or.inr ⟨_, wd_365⟩, wd_1, ⟨by decide, by decide⟩, by decide +kernel⟩, wd_366⟩
theorem cs_X5_272 : mh_cs RX5 272 yJ9_min_7cf53 2 := ⟨⟨Or.inl wd_368, wd_13, ⟨by decide, by decide⟩, by decide +kernel⟩, wd_342⟩
theorem cs_X5_277 : mh_cs RX5 277 yJ9_max_7cf53 2 := ⟨⟨Or.inl wd_369, wd_13, ⟨by decide, by decide⟩, by decide +kernel⟩, wd_370⟩
theorem cv_L_37 : mh_cv RL 37 yX5_knit 3 := ⟨⟨Or.inl wd_372, wd_1, ⟨by decide, by decide⟩, by decide +kernel⟩, wd_373, wd_374⟩
theorem cs_X5_114 : mh_cs RX5 114 yX5_isKnit 2 := ⟨⟨Or.inl wd_376, wd_1, ⟨by decide, by decide⟩, by decide +kernel⟩, wd_377⟩
theorem cv_X5_122 : mh_cv RX5 122 yX1_become 3 := ⟨⟨Or.inr ⟨_, wd_379⟩, wd_2, ⟨by decide, by decide⟩, by decide +kernel⟩, wd_381, ws_18⟩
theorem cv_L_41 : mh_cv RL 41 yX5_row 3 := ⟨⟨Or.inl wd_383, wd_1, ⟨by decide, by decide⟩, by decide +kernel⟩, wd_384, wd_385⟩
theorem cs_X5_126 : mh_cs RX5 126 yX5_isRow 1 := ⟨⟨Or.inl wd_387, wd_1, ⟨by decide, by decide⟩, by decide +kernel⟩, wd_388⟩
theorem cv_L_45 : mh_cv RL 45 yX5_told 2 := ⟨⟨Or.inl wd_390, wd_1, ⟨by decide, by decide⟩, by decide +kernel⟩, wd_391, wd_392⟩
theorem cv_X5_132 : mh_cv RX5 132 yX1_placesBelow 1 := ⟨⟨Or.inr ⟨_, wd_394⟩, wd_2, ⟨by decide, by decide⟩, by decide +kernel⟩, wd_396, ws_19⟩
theorem cs_X1_39 : mh_cs RX1 39 yX5_goesThroughOwn 1 := ⟨⟨Or.inr ⟨_, wd_398⟩, wd_1, ⟨by decide, by decide⟩, by decide +kernel⟩, wd_399⟩
theorem cs_X1_43 : mh_cs RX1 43 yX5_goesThroughNext 1 := ⟨⟨Or.inr ⟨_, wd_401⟩, wd_1, ⟨by decide, by decide⟩, by decide +kernel⟩, wd_402⟩
theorem cs_X5_136 : mh_cs RX5 136 yX5_faceOf 1 := ⟨⟨Or.inl wd_404, wd_1, ⟨by decide, by decide⟩, by decide +kernel⟩, wd_353⟩
theorem cs_X5_139 : mh_cs RX5 139 yX5_hasBit 2 := ⟨⟨Or.inl wd_405, wd_1, ⟨by decide, by decide⟩, by decide +kernel⟩, wd_356⟩
theorem cv_L_50 : mh_cv RL 50 yX5_pin 2 := ⟨⟨Or.inl wd_406, wd_1, ⟨by decide, by decide⟩, by decide +kernel⟩, wd_407, wd_408⟩
theorem cs_X5_143 : mh_cs RX5 143 yX5_bit 1 := ⟨⟨Or.inl wd_410, wd_1, ⟨by decide, by decide⟩, by decide +kernel⟩, wd_411⟩
theorem cv_L_54 : mh_cv RL 54 yX5_hangs 2 := ⟨⟨Or.inl wd_414, wd_1, ⟨by decide, by decide⟩, by decide +kernel⟩, wd_415, wd_416⟩
theorem cv_X5_151 : mh_cv RX5 151 yX1_over 1 := ⟨⟨Or.inr ⟨_, wd_419⟩, wd_2, ⟨by decide, by decide⟩, by decide +kernel⟩, wd_421, ws_20⟩
theorem cs_X1_50 : mh_cs RX1 50 yX5_bit 1 := ⟨⟨Or.inr ⟨_, wd_423⟩, wd_1, ⟨by decide, by decide⟩, by decide +kernel⟩, wd_411⟩
theorem cv_X5_154 : mh_cv RX5 154 yX5_hangingOn 1 := ⟨⟨Or.inl wd_424, wd_1, ⟨by decide, by decide⟩, by decide +kernel⟩, wd_426, ws_21⟩
theorem cv_X5_287 : mh_cv RX5 287 yX1_under 1 := ⟨⟨Or.inr ⟨_, wd_428⟩, wd_2, ⟨by decide, by decide⟩, by decide +kernel⟩, wd_430, ws_22⟩
theorem cv_X1_46 : mh_cv RX1 46 yX1_placesBelow 1 := ⟨⟨Or.inl wd_432, wd_2, ⟨by decide, by decide⟩, by decide +kernel⟩, wd_396, ws_19⟩
theorem cv_X5_157 : mh_cv RX5 157 yX5_bearing 1 := ⟨⟨Or.inl wd_433, wd_1, ⟨by decide, by decide⟩, by decide +kernel⟩, wd_435, ws_23⟩
theorem cv_L_59 : mh_cv RL 59 yX5_loose 0 := ⟨⟨Or.inl wd_437, wd_1, ⟨by decide, by decide⟩, by decide +kernel⟩, wd_438, wd_439⟩
theorem cv_X5_160 : mh_cv RX5 160 yX1_keeps 1 := ⟨⟨Or.inr ⟨_, wd_441⟩, wd_2, ⟨by decide, by decide⟩, by decide +kernel⟩, wd_443, ws_24⟩
theorem cs_X1_35 : mh_cs RX1 35 yX5_hasBit 2 := ⟨⟨Or.inr ⟨_, wd_445⟩, wd_1, ⟨by decide, by decide⟩, by decide +kernel⟩, wd_356⟩
theorem cv_L_64 : mh_cv RL 64 yX5_back 1 := ⟨⟨Or.inl wd_446, wd_1, ⟨by decide, by decide⟩, by decide +kernel⟩, wd_447, wd_448⟩
theorem cv_L_68 : mh_cv RL 68 yX5_run 3 := ⟨⟨Or.inl wd_450, wd_1, ⟨by decide, by decide⟩, by decide +kernel⟩, wd_451, wd_452⟩
theorem cv_X5_163 : mh_cv RX5 163 yX5_drop 2 := ⟨⟨Or.inl wd_454, wd_1, ⟨by decide, by decide⟩, by decide +kernel⟩, wd_456, ws_25⟩
theorem cv_X5_182 : mh_cv RX5 182 yX0_runFrom 5 := ⟨⟨Or.inr ⟨_, wd_458⟩, wd_4, ⟨by decide, by decide⟩, by decide +kernel⟩, wd_460, ws_26⟩
theorem cv_X0_22 : mh_cv RX0 22 yX1_over 1 := ⟨⟨Or.inr ⟨_, wd_462⟩, wd_2, ⟨by decide, by decide⟩, by decide +kernel⟩, wd_421, ws_20⟩
theorem cs_X0_28 : mh_cs RX0 28 yX5_hasBit 2 := ⟨⟨Or.inr ⟨_, wd_463⟩, wd_1, ⟨by decide, by decide⟩, by decide +kernel⟩, wd_356⟩
theorem cv_X0_32 : mh_cv RX0 32 yX1_keeps 1 := ⟨⟨Or.inr ⟨_, wd_464⟩, wd_2, ⟨by decide, by decide⟩, by decide +kernel⟩, wd_443, ws_24⟩
theorem cv_X0_36 : mh_cv RX0 36 yX0_restOf 4 := ⟨⟨Or.inl wd_465, wd_4, ⟨by decide, by decide⟩, by decide +kernel⟩, wd_467, ws_27⟩
theorem cs_X0_49 : mh_cs RX0 49 yJ9_max_7cf53 2 := ⟨⟨Or.inl wd_469, wd_13, ⟨by decide, by decide⟩, by decide +kernel⟩, wd_370⟩
theorem cv_X0_55 : mh_cv RX0 55 yX4_says 4 := ⟨⟨Or.inr ⟨_, wd_470⟩, wd_5, ⟨by decide, by decide⟩, by decide +kernel⟩, wd_339, ws_14⟩
theorem cs_X0_67 : mh_cs RX0 67 yX5_rubOf 3 := ⟨⟨Or.inr ⟨_, wd_471⟩, wd_1, ⟨by decide, by decide⟩, by decide +kernel⟩, wd_472⟩
theorem cs_X0_71 : mh_cs RX0 71 yX5_bounded 2 := ⟨⟨Or.inr ⟨_, wd_474⟩, wd_1, ⟨by decide, by decide⟩, by decide +kernel⟩, wd_366⟩
theorem cs_X0_40 : mh_cs RX0 40 yX5_bit 1 := ⟨⟨Or.inr ⟨_, wd_475⟩, wd_1, ⟨by decide, by decide⟩, by decide +kernel⟩, wd_411⟩
theorem cs_X0_43 : mh_cs RX0 43 yJ13_bitCount_95d88 1 := ⟨⟨Or.inl wd_476, wd_12, ⟨by decide, by decide⟩, by decide +kernel⟩, wd_302⟩
theorem cv_X5_170 : mh_cv RX5 170 yX5_lowestRow 0 := ⟨⟨Or.inl wd_477, wd_1, ⟨by decide, by decide⟩, by decide +kernel⟩, wd_479, ws_28⟩
theorem cs_X5_284 : mh_cs RX5 284 yJ13_numberOfTrailingZeros_95d88 1 := ⟨⟨Or.inl wd_481, wd_12, ⟨by decide, by decide⟩, by decide +kernel⟩, wd_482⟩
theorem cs_J13_311 : mh_cs RJ13 311 yJ6_numberOfTrailingZeros_0f7a4 1 := ⟨⟨Or.inl wd_484, wd_14, ⟨by decide, by decide⟩, by decide +kernel⟩, wd_485⟩
theorem cv_X5_173 : mh_cv RX5 173 yX5_together 1 := ⟨⟨Or.inl wd_488, wd_1, ⟨by decide, by decide⟩, by decide +kernel⟩, wd_490, ws_29⟩
theorem cv_L_72 : mh_cv RL 72 yX5_goes 3 := ⟨⟨Or.inl wd_492, wd_1, ⟨by decide, by decide⟩, by decide +kernel⟩, wd_493, wd_494⟩
theorem cv_L_77 : mh_cv RL 77 yX5_left 3 := ⟨⟨Or.inl wd_496, wd_1, ⟨by decide, by decide⟩, by decide +kernel⟩, wd_497, wd_498⟩
theorem cv_L_81 : mh_cv RL 81 yX5_most 2 := ⟨⟨Or.inl wd_500, wd_1, ⟨by decide, by decide⟩, by decide +kernel⟩, wd_501, wd_502⟩
theorem cv_L_85 : mh_cv RL 85 yX5_column 3 := ⟨⟨Or.inl wd_504, wd_1, ⟨by decide, by decide⟩, by decide +kernel⟩, wd_505, wd_506⟩
theorem cv_L_89 : mh_cv RL 89 yX5_line 2 := ⟨⟨Or.inl wd_508, wd_1, ⟨by decide, by decide⟩, by decide +kernel⟩, wd_509, wd_510⟩
theorem cv_L_93 : mh_cv RL 93 yX5_reach 2 := ⟨⟨Or.inl wd_512, wd_1, ⟨by decide, by decide⟩, by decide +kernel⟩, wd_513, wd_514⟩
theorem cv_L_97 : mh_cv RL 97 yX5_two 2 := ⟨⟨Or.inl wd_516, wd_1, ⟨by decide, by decide⟩, by decide +kernel⟩, wd_517, wd_518⟩
theorem cv_X5_186 : mh_cv RX5 186 yX5_dropBoth 3 := ⟨⟨Or.inl wd_520, wd_1, ⟨by decide, by decide⟩, by decide +kernel⟩, wd_522, ws_30⟩
theorem cv_L_101 : mh_cv RL 101 yX5_all 1 := ⟨⟨Or.inl wd_524, wd_1, ⟨by decide, by decide⟩, by decide +kernel⟩, wd_525, wd_526⟩
theorem cv_L_105 : mh_cv RL 105 yX5_counts 2 := ⟨⟨Or.inl wd_528, wd_1, ⟨by decide, by decide⟩, by decide +kernel⟩, wd_529, wd_530⟩
theorem cv_X5_190 : mh_cv RX5 190 yX5_borneOf 1 := ⟨⟨Or.inl wd_532, wd_1, ⟨by decide, by decide⟩, by decide +kernel⟩, wd_534, ws_31⟩
theorem cv_X5_193 : mh_cv RX5 193 yX5_placesUnder 1 := ⟨⟨Or.inl wd_536, wd_1, ⟨by decide, by decide⟩, by decide +kernel⟩, wd_538, ws_32⟩
theorem cs_X5_290 : mh_cs RX5 290 yJ6_bitCount_0f7a4 1 := ⟨⟨Or.inl wd_540, wd_14, ⟨by decide, by decide⟩, by decide +kernel⟩, wd_541⟩
theorem cv_X5_196 : mh_cv RX5 196 yX5_unevenOf 1 := ⟨⟨Or.inl wd_546, wd_1, ⟨by decide, by decide⟩, by decide +kernel⟩, wd_548, ws_33⟩
theorem cv_L_109 : mh_cv RL 109 yX5_slip 1 := ⟨⟨Or.inl wd_550, wd_1, ⟨by decide, by decide⟩, by decide +kernel⟩, wd_551, wd_552⟩
theorem cv_X5_199 : mh_cv RX5 199 yX5_sheetRefusal 2 := ⟨⟨Or.inl wd_554, wd_1, ⟨by decide, by decide⟩, by decide +kernel⟩, wd_556, ws_34⟩
theorem cs_X5_222 : mh_cs RX5 222 yX5_isSheet 1 := ⟨⟨Or.inl wd_558, wd_1, ⟨by decide, by decide⟩, by decide +kernel⟩, wd_559⟩
theorem cv_X5_246 : mh_cv RX5 246 yX2_isMissing 0 := ⟨⟨Or.inr ⟨_, wd_561⟩, wd_6, ⟨by decide, by decide⟩, by decide +kernel⟩, wd_563, ws_35⟩
theorem cv_L_113 : mh_cv RL 113 yX5_wrong 0 := ⟨⟨Or.inl wd_565, wd_1, ⟨by decide, by decide⟩, by decide +kernel⟩, wd_566, wd_567⟩
theorem cv_X5_205 : mh_cv RX5 205 yX5_loose 0 := ⟨⟨Or.inl wd_569, wd_1, ⟨by decide, by decide⟩, by decide +kernel⟩, wd_438, wd_439⟩
theorem cv_L_117 : mh_cv RL 117 yX5_pinned 4 := ⟨⟨Or.inl wd_570, wd_1, ⟨by decide, by decide⟩, by decide +kernel⟩, wd_571, wd_572⟩
theorem cv_X5_209 : mh_cv RX5 209 yX5_dropPinned 3 := ⟨⟨Or.inl wd_574, wd_1, ⟨by decide, by decide⟩, by decide +kernel⟩, wd_576, ws_36⟩
theorem cv_L_122 : mh_cv RL 122 yX5_mending 3 := ⟨⟨Or.inl wd_578, wd_1, ⟨by decide, by decide⟩, by decide +kernel⟩, wd_579, wd_580⟩
theorem cv_L_126 : mh_cv RL 126 yX5_mend 2 := ⟨⟨Or.inl wd_582, wd_1, ⟨by decide, by decide⟩, by decide +kernel⟩, wd_583, wd_584⟩
theorem cv_L_130 : mh_cv RL 130 yX5_block 0 := ⟨⟨Or.inl wd_586, wd_1, ⟨by decide, by decide⟩, by decide +kernel⟩, wd_587, wd_588⟩
theorem cv_L_134 : mh_cv RL 134 yX5_seen 0 := ⟨⟨Or.inl wd_590, wd_1, ⟨by decide, by decide⟩, by decide +kernel⟩, wd_591, wd_592⟩
theorem cv_X5_213 : mh_cv RX5 213 yX5_isUnlikeThoseBeside 1 := ⟨⟨Or.inl wd_594, wd_1, ⟨by decide, by decide⟩, by decide +kernel⟩, wd_596, ws_37⟩
theorem cv_L_138 : mh_cv RL 138 yX5_slack 2 := ⟨⟨Or.inl wd_598, wd_1, ⟨by decide, by decide⟩, by decide +kernel⟩, wd_599, wd_600⟩
theorem cv_L_142 : mh_cv RL 142 yX5_judge 3 := ⟨⟨Or.inl wd_602, wd_1, ⟨by decide, by decide⟩, by decide +kernel⟩, wd_603, wd_604⟩
theorem cv_X5_216 : mh_cv RX5 216 yX5_ragRefusal 2 := ⟨⟨Or.inl wd_606, wd_1, ⟨by decide, by decide⟩, by decide +kernel⟩, wd_608, ws_38⟩
theorem cv_X5_219 : mh_cv RX5 219 yX2_firstUnlike 1 := ⟨⟨Or.inr ⟨_, wd_610⟩, wd_6, ⟨by decide, by decide⟩, by decide +kernel⟩, wd_612, ws_39⟩
theorem cs_X2_22 : mh_cs RX2 22 yX5_hasBit 2 := ⟨⟨Or.inr ⟨_, wd_614⟩, wd_1, ⟨by decide, by decide⟩, by decide +kernel⟩, wd_356⟩
theorem cv_L_146 : mh_cv RL 146 yX5_which 2 := ⟨⟨Or.inl wd_615, wd_1, ⟨by decide, by decide⟩, by decide +kernel⟩, wd_616, wd_617⟩
theorem cv_L_150 : mh_cv RL 150 yX5_span 3 := ⟨⟨Or.inl wd_619, wd_1, ⟨by decide, by decide⟩, by decide +kernel⟩, wd_620, wd_621⟩
theorem cv_L_154 : mh_cv RL 154 yX5_laws 3 := ⟨⟨Or.inl wd_623, wd_1, ⟨by decide, by decide⟩, by decide +kernel⟩, wd_624, wd_625⟩
theorem cv_L_158 : mh_cv RL 158 yX5_film 3 := ⟨⟨Or.inl wd_627, wd_1, ⟨by decide, by decide⟩, by decide +kernel⟩, wd_628, wd_629⟩
theorem cv_X5_225 : mh_cv RX5 225 yX2_become 2 := ⟨⟨Or.inr ⟨_, wd_631⟩, wd_6, ⟨by decide, by decide⟩, by decide +kernel⟩, wd_633, ws_40⟩
theorem cv_X5_228 : mh_cv RX5 228 yX2_put 2 := ⟨⟨Or.inr ⟨_, wd_635⟩, wd_6, ⟨by decide, by decide⟩, by decide +kernel⟩, wd_637, ws_41⟩
theorem cv_L_162 : mh_cv RL 162 yX5_slips 4 := ⟨⟨Or.inl wd_639, wd_1, ⟨by decide, by decide⟩, by decide +kernel⟩, wd_640, wd_641⟩
theorem cv_X5_232 : mh_cv RX5 232 yX5_missed 2 := ⟨⟨Or.inl wd_644, wd_1, ⟨by decide, by decide⟩, by decide +kernel⟩, wd_646, ws_42⟩
theorem cv_L_166 : mh_cv RL 166 yX5_odds 6 := ⟨⟨Or.inl wd_651, wd_1, ⟨by decide, by decide⟩, by decide +kernel⟩, wd_652, wd_653⟩
theorem cs_X5_235 : mh_cs RX5 235 yX5_commonDivisor 2 := ⟨⟨Or.inl wd_655, wd_1, ⟨by decide, by decide⟩, by decide +kernel⟩, wd_656⟩
theorem cv_L_171 : mh_cv RL 171 yX5_image 0 := ⟨⟨Or.inl wd_658, wd_1, ⟨by decide, by decide⟩, by decide +kernel⟩, wd_659, wd_660⟩
theorem cv_X5_238 : mh_cv RX5 238 yX1_takeFrom 1 := ⟨⟨Or.inr ⟨_, wd_662⟩, wd_2, ⟨by decide, by decide⟩, by decide +kernel⟩, wd_664, ws_43⟩
theorem cv_L_175 : mh_cv RL 175 yX5_restore 0 := ⟨⟨Or.inl wd_669, wd_1, ⟨by decide, by decide⟩, by decide +kernel⟩, wd_670, wd_671⟩
theorem cv_L_179 : mh_cv RL 179 yX5_sheet 3 := ⟨⟨Or.inl wd_673, wd_1, ⟨by decide, by decide⟩, by decide +kernel⟩, wd_674, wd_675⟩
theorem cv_L_183 : mh_cv RL 183 yX5_cell 3 := ⟨⟨Or.inl wd_677, wd_1, ⟨by decide, by decide⟩, by decide +kernel⟩, wd_678, wd_679⟩
theorem cv_L_187 : mh_cv RL 187 yX5_copy 5 := ⟨⟨Or.inl wd_681, wd_1, ⟨by decide, by decide⟩, by decide +kernel⟩, wd_682, wd_683⟩
theorem cv_X5_254 : mh_cv RX5 254 yX2_hasRoom 2 := ⟨⟨Or.inr ⟨_, wd_685⟩, wd_6, ⟨by decide, by decide⟩, by decide +kernel⟩, wd_687, ws_44⟩
theorem cv_L_192 : mh_cv RL 192 yX5_knits 4 := ⟨⟨Or.inl wd_690, wd_1, ⟨by decide, by decide⟩, by decide +kernel⟩, wd_691, wd_692⟩
theorem cv_X5_263 : mh_cv RX5 263 yX5_knit 3 := ⟨⟨Or.inl wd_694, wd_1, ⟨by decide, by decide⟩, by decide +kernel⟩, wd_373, wd_374⟩
theorem cv_L_196 : mh_cv RL 196 yX5_taken 2 := ⟨⟨Or.inl wd_695, wd_1, ⟨by decide, by decide⟩, by decide +kernel⟩, wd_696, wd_697⟩
theorem cs_X5_266 : mh_cs RX5 266 yX5_isOne 2 := ⟨⟨Or.inl wd_699, wd_1, ⟨by decide, by decide⟩, by decide +kernel⟩, wd_700⟩
theorem cv_X5_269 : mh_cv RX5 269 yX5_pinnedPlaces 1 := ⟨⟨Or.inl wd_702, wd_1, ⟨by decide, by decide⟩, by decide +kernel⟩, wd_704, ws_45⟩
theorem ci_L_12 : mh_ci RL 12 yX6_init 0 := ⟨⟨Or.inl wd_708, wd_11, ⟨by decide, by decide⟩, by decide +kernel⟩, wd_709, rfl⟩
theorem cv_X6_65 : mh_cv RX6 65 yX6_text 0 := ⟨⟨Or.inl wd_712, wd_11, ⟨by decide, by decide⟩, by decide +kernel⟩, wd_713, wd_714⟩
theorem cv_X6_125 : mh_cv RX6 125 yX6_next 0 := ⟨⟨Or.inl wd_716, wd_11, ⟨by decide, by decide⟩, by decide +kernel⟩, wd_718, ws_46⟩
theorem cs_X6_69 : mh_cs RX6 69 yX6_in 3 := ⟨⟨Or.inl wd_720, wd_11, ⟨by decide, by decide⟩, by decide +kernel⟩, wd_721⟩
theorem cv_X6_99 : mh_cv RX6 99 yX6_wordFrom 2 := ⟨⟨Or.inl wd_723, wd_11, ⟨by decide, by decide⟩, by decide +kernel⟩, wd_725, ws_47⟩
theorem cv_X6_138 : mh_cv RX6 138 yX6_eRead 0 := ⟨⟨Or.inl wd_727, wd_11, ⟨by decide, by decide⟩, by decide +kernel⟩, wd_729, ws_48⟩
theorem cv_X6_115 : mh_cv RX6 115 yX6_puts 1 := ⟨⟨Or.inl wd_732, wd_11, ⟨by decide, by decide⟩, by decide +kernel⟩, wd_734, ws_49⟩
theorem cv_X6_122 : mh_cv RX6 122 yX6_unwinds 1 := ⟨⟨Or.inl wd_736, wd_11, ⟨by decide, by decide⟩, by decide +kernel⟩, wd_738, ws_50⟩
theorem cs_X6_109 : mh_cs RX6 109 yX6_rank 1 := ⟨⟨Or.inl wd_740, wd_11, ⟨by decide, by decide⟩, by decide +kernel⟩, wd_741⟩
theorem cv_X6_129 : mh_cv RX6 129 yX6_opensOne 1 := ⟨⟨Or.inl wd_743, wd_11, ⟨by decide, by decide⟩, by decide +kernel⟩, wd_745, ws_51⟩
theorem cv_X6_119 : mh_cv RX6 119 yX6_holds 1 := ⟨⟨Or.inl wd_747, wd_11, ⟨by decide, by decide⟩, by decide +kernel⟩, wd_749, ws_52⟩
theorem cv_X6_132 : mh_cv RX6 132 yX6_signOf 0 := ⟨⟨Or.inl wd_751, wd_11, ⟨by decide, by decide⟩, by decide +kernel⟩, wd_753, ws_53⟩
theorem cv_X6_135 : mh_cv RX6 135 yX6_between 1 := ⟨⟨Or.inl wd_755, wd_11, ⟨by decide, by decide⟩, by decide +kernel⟩, wd_757, ws_54⟩
theorem gf_X6_7 : mh_fl RX6 7 6 0 := ⟨RX6, TX6, 30, rfl, in_X6, by decide, rfl, Or.inl wd_759⟩
theorem pf_X6_7 : mh_fp RX6 7 6 0 (.array .int) true := ⟨RX6, TX6, 30, tyX6, rfl, in_X6, by decide, rfl, Or.inl wd_759, tyX6_ok, nmX6, rfl, by decide +kernel, fun _ => rfl⟩
theorem gf_X6_13 : mh_fl RX6 13 6 1 := ⟨RX6, TX6, 30, rfl, in_X6, by decide, rfl, Or.inl wd_760⟩
theorem pf_X6_13 : mh_fp RX6 13 6 1 (.array .int) true := ⟨RX6, TX6, 30, tyX6, rfl, in_X6, by decide, rfl, Or.inl wd_760, tyX6_ok, nmX6, rfl, by decide +kernel, fun _ => rfl⟩
theorem gf_X6_16 : mh_fl RX6 16 6 2 := ⟨RX6, TX6, 30, rfl, in_X6, by decide, rfl, Or.inl wd_761⟩
theorem pf_X6_16 : mh_fp RX6 16 6 2 (.array .int) true := ⟨RX6, TX6, 30, tyX6, rfl, in_X6, by decide, rfl, Or.inl wd_761, tyX6_ok, nmX6, rfl, by decide +kernel, fun _ => rfl⟩
theorem gf_X6_19 : mh_fl RX6 19 6 3 := ⟨RX6, TX6, 30, rfl, in_X6, by decide, rfl, Or.inl wd_762⟩
theorem pf_X6_19 : mh_fp RX6 19 6 3 (.array .int) true := ⟨RX6, TX6, 30, tyX6, rfl, in_X6, by decide, rfl, Or.inl wd_762, tyX6_ok, nmX6, rfl, by decide +kernel, fun _ => rfl⟩
theorem gf_X6_22 : mh_fl RX6 22 6 4 := ⟨RX6, TX6, 30, rfl, in_X6, by decide, rfl, Or.inl wd_763⟩
theorem pf_X6_22 : mh_fp RX6 22 6 4 (.array .int) true := ⟨RX6, TX6, 30, tyX6, rfl, in_X6, by decide, rfl, Or.inl wd_763, tyX6_ok, nmX6, rfl, by decide +kernel, fun _ => rfl⟩
theorem gf_X6_61 : mh_fl RX6 61 6 5 := ⟨RX6, TX6, 30, rfl, in_X6, by decide, rfl, Or.inl wd_764⟩
theorem pf_X6_61 : mh_fp RX6 61 6 5 .int false := ⟨RX6, TX6, 30, tyX6, rfl, in_X6, by decide, rfl, Or.inl wd_764, tyX6_ok, nmX6, rfl, by decide +kernel, fun _ => rfl⟩
theorem gf_X6_25 : mh_fl RX6 25 6 6 := ⟨RX6, TX6, 30, rfl, in_X6, by decide, rfl, Or.inl wd_765⟩
theorem pf_X6_25 : mh_fp RX6 25 6 6 (.array .int) true := ⟨RX6, TX6, 30, tyX6, rfl, in_X6, by decide, rfl, Or.inl wd_765, tyX6_ok, nmX6, rfl, by decide +kernel, fun _ => rfl⟩
theorem gf_X6_28 : mh_fl RX6 28 6 7 := ⟨RX6, TX6, 30, rfl, in_X6, by decide, rfl, Or.inl wd_766⟩
theorem pf_X6_28 : mh_fp RX6 28 6 7 (.array .int) true := ⟨RX6, TX6, 30, tyX6, rfl, in_X6, by decide, rfl, Or.inl wd_766, tyX6_ok, nmX6, rfl, by decide +kernel, fun _ => rfl⟩
theorem gf_X6_77 : mh_fl RX6 77 6 8 := ⟨RX6, TX6, 30, rfl, in_X6, by decide, rfl, Or.inl wd_767⟩
theorem pf_X6_77 : mh_fp RX6 77 6 8 .int false := ⟨RX6, TX6, 30, tyX6, rfl, in_X6, by decide, rfl, Or.inl wd_767, tyX6_ok, nmX6, rfl, by decide +kernel, fun _ => rfl⟩
theorem gf_X6_80 : mh_fl RX6 80 6 9 := ⟨RX6, TX6, 30, rfl, in_X6, by decide, rfl, Or.inl wd_768⟩
theorem pf_X6_80 : mh_fp RX6 80 6 9 .int false := ⟨RX6, TX6, 30, tyX6, rfl, in_X6, by decide, rfl, Or.inl wd_768, tyX6_ok, nmX6, rfl, by decide +kernel, fun _ => rfl⟩
theorem gf_X6_265 : mh_fl RX6 265 6 10 := ⟨RX6, TX6, 30, rfl, in_X6, by decide, rfl, Or.inl wd_769⟩
theorem pf_X6_265 : mh_fp RX6 265 6 10 .boolean false := ⟨RX6, TX6, 30, tyX6, rfl, in_X6, by decide, rfl, Or.inl wd_769, tyX6_ok, nmX6, rfl, by decide +kernel, fun _ => rfl⟩
theorem gf_X6_269 : mh_fl RX6 269 6 11 := ⟨RX6, TX6, 30, rfl, in_X6, by decide, rfl, Or.inl wd_770⟩
theorem pf_X6_269 : mh_fp RX6 269 6 11 .int false := ⟨RX6, TX6, 30, tyX6, rfl, in_X6, by decide, rfl, Or.inl wd_770, tyX6_ok, nmX6, rfl, by decide +kernel, fun _ => rfl⟩
theorem gf_X6_31 : mh_fl RX6 31 6 12 := ⟨RX6, TX6, 30, rfl, in_X6, by decide, rfl, Or.inl wd_771⟩
theorem pf_X6_31 : mh_fp RX6 31 6 12 (.array .int) true := ⟨RX6, TX6, 30, tyX6, rfl, in_X6, by decide, rfl, Or.inl wd_771, tyX6_ok, nmX6, rfl, by decide +kernel, fun _ => rfl⟩
theorem gf_X6_34 : mh_fl RX6 34 6 13 := ⟨RX6, TX6, 30, rfl, in_X6, by decide, rfl, Or.inl wd_772⟩
theorem pf_X6_34 : mh_fp RX6 34 6 13 (.array .int) true := ⟨RX6, TX6, 30, tyX6, rfl, in_X6, by decide, rfl, Or.inl wd_772, tyX6_ok, nmX6, rfl, by decide +kernel, fun _ => rfl⟩
theorem gf_X6_37 : mh_fl RX6 37 6 14 := ⟨RX6, TX6, 30, rfl, in_X6, by decide, rfl, Or.inl wd_773⟩
theorem pf_X6_37 : mh_fp RX6 37 6 14 (.array .int) true := ⟨RX6, TX6, 30, tyX6, rfl, in_X6, by decide, rfl, Or.inl wd_773, tyX6_ok, nmX6, rfl, by decide +kernel, fun _ => rfl⟩
theorem gf_X6_40 : mh_fl RX6 40 6 15 := ⟨RX6, TX6, 30, rfl, in_X6, by decide, rfl, Or.inl wd_774⟩
theorem pf_X6_40 : mh_fp RX6 40 6 15 (.array .int) true := ⟨RX6, TX6, 30, tyX6, rfl, in_X6, by decide, rfl, Or.inl wd_774, tyX6_ok, nmX6, rfl, by decide +kernel, fun _ => rfl⟩
theorem gf_X6_43 : mh_fl RX6 43 6 16 := ⟨RX6, TX6, 30, rfl, in_X6, by decide, rfl, Or.inl wd_775⟩
theorem pf_X6_43 : mh_fp RX6 43 6 16 (.array .int) true := ⟨RX6, TX6, 30, tyX6, rfl, in_X6, by decide, rfl, Or.inl wd_775, tyX6_ok, nmX6, rfl, by decide +kernel, fun _ => rfl⟩
theorem gf_X6_87 : mh_fl RX6 87 6 17 := ⟨RX6, TX6, 30, rfl, in_X6, by decide, rfl, Or.inl wd_776⟩
theorem pf_X6_87 : mh_fp RX6 87 6 17 .int false := ⟨RX6, TX6, 30, tyX6, rfl, in_X6, by decide, rfl, Or.inl wd_776, tyX6_ok, nmX6, rfl, by decide +kernel, fun _ => rfl⟩
theorem gf_X6_90 : mh_fl RX6 90 6 18 := ⟨RX6, TX6, 30, rfl, in_X6, by decide, rfl, Or.inl wd_777⟩
theorem pf_X6_90 : mh_fp RX6 90 6 18 .int false := ⟨RX6, TX6, 30, tyX6, rfl, in_X6, by decide, rfl, Or.inl wd_777, tyX6_ok, nmX6, rfl, by decide +kernel, fun _ => rfl⟩
theorem gf_X6_93 : mh_fl RX6 93 6 19 := ⟨RX6, TX6, 30, rfl, in_X6, by decide, rfl, Or.inl wd_778⟩
theorem pf_X6_93 : mh_fp RX6 93 6 19 .int false := ⟨RX6, TX6, 30, tyX6, rfl, in_X6, by decide, rfl, Or.inl wd_778, tyX6_ok, nmX6, rfl, by decide +kernel, fun _ => rfl⟩
theorem gf_X6_96 : mh_fl RX6 96 6 20 := ⟨RX6, TX6, 30, rfl, in_X6, by decide, rfl, Or.inl wd_779⟩
theorem pf_X6_96 : mh_fp RX6 96 6 20 .int false := ⟨RX6, TX6, 30, tyX6, rfl, in_X6, by decide, rfl, Or.inl wd_779, tyX6_ok, nmX6, rfl, by decide +kernel, fun _ => rfl⟩
theorem gf_X6_46 : mh_fl RX6 46 6 21 := ⟨RX6, TX6, 30, rfl, in_X6, by decide, rfl, Or.inl wd_780⟩
theorem pf_X6_46 : mh_fp RX6 46 6 21 (.array .int) true := ⟨RX6, TX6, 30, tyX6, rfl, in_X6, by decide, rfl, Or.inl wd_780, tyX6_ok, nmX6, rfl, by decide +kernel, fun _ => rfl⟩
theorem gf_X6_49 : mh_fl RX6 49 6 22 := ⟨RX6, TX6, 30, rfl, in_X6, by decide, rfl, Or.inl wd_781⟩
theorem pf_X6_49 : mh_fp RX6 49 6 22 (.array .int) true := ⟨RX6, TX6, 30, tyX6, rfl, in_X6, by decide, rfl, Or.inl wd_781, tyX6_ok, nmX6, rfl, by decide +kernel, fun _ => rfl⟩
theorem gf_X6_106 : mh_fl RX6 106 6 23 := ⟨RX6, TX6, 30, rfl, in_X6, by decide, rfl, Or.inl wd_782⟩
theorem pf_X6_106 : mh_fp RX6 106 6 23 .int false := ⟨RX6, TX6, 30, tyX6, rfl, in_X6, by decide, rfl, Or.inl wd_782, tyX6_ok, nmX6, rfl, by decide +kernel, fun _ => rfl⟩
theorem gf_X6_112 : mh_fl RX6 112 6 24 := ⟨RX6, TX6, 30, rfl, in_X6, by decide, rfl, Or.inl wd_783⟩
theorem pf_X6_112 : mh_fp RX6 112 6 24 .int false := ⟨RX6, TX6, 30, tyX6, rfl, in_X6, by decide, rfl, Or.inl wd_783, tyX6_ok, nmX6, rfl, by decide +kernel, fun _ => rfl⟩
theorem gf_X6_103 : mh_fl RX6 103 6 25 := ⟨RX6, TX6, 30, rfl, in_X6, by decide, rfl, Or.inl wd_784⟩
theorem pf_X6_103 : mh_fp RX6 103 6 25 .int false := ⟨RX6, TX6, 30, tyX6, rfl, in_X6, by decide, rfl, Or.inl wd_784, tyX6_ok, nmX6, rfl, by decide +kernel, fun _ => rfl⟩
theorem gf_X6_52 : mh_fl RX6 52 6 26 := ⟨RX6, TX6, 30, rfl, in_X6, by decide, rfl, Or.inl wd_785⟩
theorem pf_X6_52 : mh_fp RX6 52 6 26 (.array .int) true := ⟨RX6, TX6, 30, tyX6, rfl, in_X6, by decide, rfl, Or.inl wd_785, tyX6_ok, nmX6, rfl, by decide +kernel, fun _ => rfl⟩
theorem gf_X6_55 : mh_fl RX6 55 6 27 := ⟨RX6, TX6, 30, rfl, in_X6, by decide, rfl, Or.inl wd_786⟩
theorem pf_X6_55 : mh_fp RX6 55 6 27 (.array .int) true := ⟨RX6, TX6, 30, tyX6, rfl, in_X6, by decide, rfl, Or.inl wd_786, tyX6_ok, nmX6, rfl, by decide +kernel, fun _ => rfl⟩
theorem gf_X6_58 : mh_fl RX6 58 6 28 := ⟨RX6, TX6, 30, rfl, in_X6, by decide, rfl, Or.inl wd_787⟩
theorem pf_X6_58 : mh_fp RX6 58 6 28 (.array .int) true := ⟨RX6, TX6, 30, tyX6, rfl, in_X6, by decide, rfl, Or.inl wd_787, tyX6_ok, nmX6, rfl, by decide +kernel, fun _ => rfl⟩
theorem gf_X6_202 : mh_fl RX6 202 6 29 := ⟨RX6, TX6, 30, rfl, in_X6, by decide, rfl, Or.inl wd_788⟩
theorem pf_X6_202 : mh_fp RX6 202 6 29 .int false := ⟨RX6, TX6, 30, tyX6, rfl, in_X6, by decide, rfl, Or.inl wd_788, tyX6_ok, nmX6, rfl, by decide +kernel, fun _ => rfl⟩
theorem cv_L_17 : mh_cv RL 17 yX6_count 1 := ⟨⟨Or.inl wd_850, wd_11, ⟨by decide, by decide⟩, by decide +kernel⟩, wd_851, wd_852⟩
theorem cv_X6_73 : mh_cv RX6 73 yX6_manyIn 1 := ⟨⟨Or.inl wd_854, wd_11, ⟨by decide, by decide⟩, by decide +kernel⟩, wd_856, ws_55⟩
theorem cv_L_22 : mh_cv RL 22 yX6_feed 6 := ⟨⟨Or.inl wd_858, wd_11, ⟨by decide, by decide⟩, by decide +kernel⟩, wd_859, wd_860⟩
theorem cs_X6_83 : mh_cs RX6 83 yX6_isByte 1 := ⟨⟨Or.inl wd_862, wd_11, ⟨by decide, by decide⟩, by decide +kernel⟩, wd_863⟩
theorem cv_L_27 : mh_cv RL 27 yX6_text 0 := ⟨⟨Or.inl wd_865, wd_11, ⟨by decide, by decide⟩, by decide +kernel⟩, wd_713, wd_714⟩
theorem cv_L_31 : mh_cv RL 31 yX6_force 1 := ⟨⟨Or.inl wd_866, wd_11, ⟨by decide, by decide⟩, by decide +kernel⟩, wd_867, wd_868⟩
theorem cv_L_36 : mh_cv RL 36 yX6_asks 3 := ⟨⟨Or.inl wd_870, wd_11, ⟨by decide, by decide⟩, by decide +kernel⟩, wd_871, wd_872⟩
theorem cs_X6_155 : mh_cs RX6 155 yX6_isLoop 1 := ⟨⟨Or.inl wd_874, wd_11, ⟨by decide, by decide⟩, by decide +kernel⟩, wd_875⟩
theorem cs_X6_158 : mh_cs RX6 158 yX6_isPull 1 := ⟨⟨Or.inl wd_877, wd_11, ⟨by decide, by decide⟩, by decide +kernel⟩, wd_878⟩
theorem cv_X6_161 : mh_cv RX6 161 yX6_asksOf 3 := ⟨⟨Or.inl wd_880, wd_11, ⟨by decide, by decide⟩, by decide +kernel⟩, wd_882, ws_56⟩
theorem cs_X6_146 : mh_cs RX6 146 yX6_faceOf 1 := ⟨⟨Or.inl wd_884, wd_11, ⟨by decide, by decide⟩, by decide +kernel⟩, wd_885⟩
theorem cv_X6_149 : mh_cv RX6 149 yX6_worth 1 := ⟨⟨Or.inl wd_887, wd_11, ⟨by decide, by decide⟩, by decide +kernel⟩, wd_889, ws_57⟩
theorem cs_X6_142 : mh_cs RX6 142 yX6_two 3 := ⟨⟨Or.inl wd_891, wd_11, ⟨by decide, by decide⟩, by decide +kernel⟩, wd_892⟩
theorem cs_X6_152 : mh_cs RX6 152 yX6_within 3 := ⟨⟨Or.inl wd_894, wd_11, ⟨by decide, by decide⟩, by decide +kernel⟩, wd_895⟩
theorem cv_L_40 : mh_cv RL 40 yX6_knit 3 := ⟨⟨Or.inl wd_897, wd_11, ⟨by decide, by decide⟩, by decide +kernel⟩, wd_898, wd_899⟩
theorem cs_X6_164 : mh_cs RX6 164 yX6_isKnit 2 := ⟨⟨Or.inl wd_901, wd_11, ⟨by decide, by decide⟩, by decide +kernel⟩, wd_902⟩
theorem cv_L_44 : mh_cv RL 44 yX6_row 3 := ⟨⟨Or.inl wd_904, wd_11, ⟨by decide, by decide⟩, by decide +kernel⟩, wd_905, wd_906⟩
theorem cv_X6_168 : mh_cv RX6 168 yX6_knit 3 := ⟨⟨Or.inl wd_908, wd_11, ⟨by decide, by decide⟩, by decide +kernel⟩, wd_898, wd_899⟩
theorem cv_L_49 : mh_cv RL 49 yX6_told 2 := ⟨⟨Or.inl wd_909, wd_11, ⟨by decide, by decide⟩, by decide +kernel⟩, wd_910, wd_911⟩
theorem cv_X6_171 : mh_cv RX6 171 yX6_through 1 := ⟨⟨Or.inl wd_913, wd_11, ⟨by decide, by decide⟩, by decide +kernel⟩, wd_915, ws_58⟩
theorem cv_L_53 : mh_cv RL 53 yX6_pin 2 := ⟨⟨Or.inl wd_917, wd_11, ⟨by decide, by decide⟩, by decide +kernel⟩, wd_918, wd_919⟩
theorem cv_L_58 : mh_cv RL 58 yX6_hangs 2 := ⟨⟨Or.inl wd_921, wd_11, ⟨by decide, by decide⟩, by decide +kernel⟩, wd_922, wd_923⟩
theorem cv_X6_183 : mh_cv RX6 183 yX6_hanging 1 := ⟨⟨Or.inl wd_926, wd_11, ⟨by decide, by decide⟩, by decide +kernel⟩, wd_928, ws_59⟩
theorem cv_X6_177 : mh_cv RX6 177 yX6_uppers 1 := ⟨⟨Or.inl wd_930, wd_11, ⟨by decide, by decide⟩, by decide +kernel⟩, wd_932, ws_60⟩
theorem cv_X6_174 : mh_cv RX6 174 yX6_goesThrough 2 := ⟨⟨Or.inl wd_934, wd_11, ⟨by decide, by decide⟩, by decide +kernel⟩, wd_936, ws_61⟩
theorem cv_L_63 : mh_cv RL 63 yX6_loose 0 := ⟨⟨Or.inl wd_938, wd_11, ⟨by decide, by decide⟩, by decide +kernel⟩, wd_939, wd_940⟩
theorem cv_X6_189 : mh_cv RX6 189 yX6_isLoose 1 := ⟨⟨Or.inl wd_942, wd_11, ⟨by decide, by decide⟩, by decide +kernel⟩, wd_944, ws_62⟩
theorem cv_X6_186 : mh_cv RX6 186 yX6_keeps 1 := ⟨⟨Or.inl wd_946, wd_11, ⟨by decide, by decide⟩, by decide +kernel⟩, wd_948, ws_63⟩
theorem cv_L_67 : mh_cv RL 67 yX6_back 1 := ⟨⟨Or.inl wd_950, wd_11, ⟨by decide, by decide⟩, by decide +kernel⟩, wd_951, wd_952⟩
theorem cs_X6_192 : mh_cs RX6 192 yX6_bitsOf 1 := ⟨⟨Or.inl wd_954, wd_11, ⟨by decide, by decide⟩, by decide +kernel⟩, wd_955⟩
theorem cv_L_71 : mh_cv RL 71 yX6_run 3 := ⟨⟨Or.inl wd_957, wd_11, ⟨by decide, by decide⟩, by decide +kernel⟩, wd_958, wd_959⟩
theorem cv_X6_213 : mh_cv RX6 213 yX6_runsFrom 2 := ⟨⟨Or.inl wd_961, wd_11, ⟨by decide, by decide⟩, by decide +kernel⟩, wd_963, ws_64⟩
theorem cv_X6_209 : mh_cv RX6 209 yX6_runs 2 := ⟨⟨Or.inl wd_965, wd_11, ⟨by decide, by decide⟩, by decide +kernel⟩, wd_967, ws_65⟩
theorem cv_X6_205 : mh_cv RX6 205 yX6_leftOf 3 := ⟨⟨Or.inl wd_969, wd_11, ⟨by decide, by decide⟩, by decide +kernel⟩, wd_971, ws_66⟩
theorem cv_X6_196 : mh_cv RX6 196 yX6_allGone 1 := ⟨⟨Or.inl wd_973, wd_11, ⟨by decide, by decide⟩, by decide +kernel⟩, wd_975, ws_67⟩
theorem cv_X6_199 : mh_cv RX6 199 yX6_rubs 2 := ⟨⟨Or.inl wd_977, wd_11, ⟨by decide, by decide⟩, by decide +kernel⟩, wd_979, ws_68⟩
theorem cv_X6_217 : mh_cv RX6 217 yX6_lowest 0 := ⟨⟨Or.inl wd_981, wd_11, ⟨by decide, by decide⟩, by decide +kernel⟩, wd_983, ws_69⟩
theorem cv_X6_220 : mh_cv RX6 220 yX6_sumOf 1 := ⟨⟨Or.inl wd_985, wd_11, ⟨by decide, by decide⟩, by decide +kernel⟩, wd_987, ws_70⟩
theorem cv_L_76 : mh_cv RL 76 yX6_goes 3 := ⟨⟨Or.inl wd_989, wd_11, ⟨by decide, by decide⟩, by decide +kernel⟩, wd_990, wd_991⟩
theorem cv_L_80 : mh_cv RL 80 yX6_left 3 := ⟨⟨Or.inl wd_993, wd_11, ⟨by decide, by decide⟩, by decide +kernel⟩, wd_994, wd_995⟩
theorem cv_L_84 : mh_cv RL 84 yX6_most 2 := ⟨⟨Or.inl wd_997, wd_11, ⟨by decide, by decide⟩, by decide +kernel⟩, wd_998, wd_999⟩
theorem cv_L_88 : mh_cv RL 88 yX6_column 3 := ⟨⟨Or.inl wd_1001, wd_11, ⟨by decide, by decide⟩, by decide +kernel⟩, wd_1002, wd_1003⟩
theorem cv_L_92 : mh_cv RL 92 yX6_line 2 := ⟨⟨Or.inl wd_1005, wd_11, ⟨by decide, by decide⟩, by decide +kernel⟩, wd_1006, wd_1007⟩
theorem cv_L_96 : mh_cv RL 96 yX6_reach 2 := ⟨⟨Or.inl wd_1009, wd_11, ⟨by decide, by decide⟩, by decide +kernel⟩, wd_1010, wd_1011⟩
theorem cv_L_100 : mh_cv RL 100 yX6_two_ 2 := ⟨⟨Or.inl wd_1013, wd_11, ⟨by decide, by decide⟩, by decide +kernel⟩, wd_1014, wd_1015⟩
theorem cv_X6_227 : mh_cv RX6 227 yX6_alone 3 := ⟨⟨Or.inl wd_1017, wd_11, ⟨by decide, by decide⟩, by decide +kernel⟩, wd_1019, ws_71⟩
theorem cv_X6_223 : mh_cv RX6 223 yX6_went 0 := ⟨⟨Or.inl wd_1021, wd_11, ⟨by decide, by decide⟩, by decide +kernel⟩, wd_1023, ws_72⟩
theorem cv_L_104 : mh_cv RL 104 yX6_all 1 := ⟨⟨Or.inl wd_1025, wd_11, ⟨by decide, by decide⟩, by decide +kernel⟩, wd_1026, wd_1027⟩
theorem cv_L_108 : mh_cv RL 108 yX6_counts 2 := ⟨⟨Or.inl wd_1029, wd_11, ⟨by decide, by decide⟩, by decide +kernel⟩, wd_1030, wd_1031⟩
theorem cv_X6_230 : mh_cv RX6 230 yX6_countIn 2 := ⟨⟨Or.inl wd_1033, wd_11, ⟨by decide, by decide⟩, by decide +kernel⟩, wd_1035, ws_73⟩
theorem cv_L_112 : mh_cv RL 112 yX6_slip 1 := ⟨⟨Or.inl wd_1037, wd_11, ⟨by decide, by decide⟩, by decide +kernel⟩, wd_1038, wd_1039⟩
theorem cv_X6_233 : mh_cv RX6 233 yX6_sheetWrong 2 := ⟨⟨Or.inl wd_1041, wd_11, ⟨by decide, by decide⟩, by decide +kernel⟩, wd_1043, ws_74⟩
theorem cv_L_116 : mh_cv RL 116 yX6_wrong 0 := ⟨⟨Or.inl wd_1045, wd_11, ⟨by decide, by decide⟩, by decide +kernel⟩, wd_1046, wd_1047⟩
theorem cv_L_121 : mh_cv RL 121 yX6_pinned 4 := ⟨⟨Or.inl wd_1049, wd_11, ⟨by decide, by decide⟩, by decide +kernel⟩, wd_1050, wd_1051⟩
theorem cv_X6_236 : mh_cv RX6 236 yX6_isHeld 3 := ⟨⟨Or.inl wd_1053, wd_11, ⟨by decide, by decide⟩, by decide +kernel⟩, wd_1055, ws_75⟩
theorem cv_X6_239 : mh_cv RX6 239 yX6_pinsFor 4 := ⟨⟨Or.inl wd_1057, wd_11, ⟨by decide, by decide⟩, by decide +kernel⟩, wd_1059, ws_76⟩
theorem cv_L_125 : mh_cv RL 125 yX6_mending 3 := ⟨⟨Or.inl wd_1061, wd_11, ⟨by decide, by decide⟩, by decide +kernel⟩, wd_1062, wd_1063⟩
theorem cv_L_129 : mh_cv RL 129 yX6_mend 2 := ⟨⟨Or.inl wd_1065, wd_11, ⟨by decide, by decide⟩, by decide +kernel⟩, wd_1066, wd_1067⟩
theorem cv_L_133 : mh_cv RL 133 yX6_block 0 := ⟨⟨Or.inl wd_1069, wd_11, ⟨by decide, by decide⟩, by decide +kernel⟩, wd_1070, wd_1071⟩
theorem cv_L_137 : mh_cv RL 137 yX6_seen 0 := ⟨⟨Or.inl wd_1073, wd_11, ⟨by decide, by decide⟩, by decide +kernel⟩, wd_1074, wd_1075⟩
theorem cv_L_141 : mh_cv RL 141 yX6_slack 2 := ⟨⟨Or.inl wd_1077, wd_11, ⟨by decide, by decide⟩, by decide +kernel⟩, wd_1078, wd_1079⟩
theorem cv_L_145 : mh_cv RL 145 yX6_judge 3 := ⟨⟨Or.inl wd_1081, wd_11, ⟨by decide, by decide⟩, by decide +kernel⟩, wd_1082, wd_1083⟩
theorem cv_X6_243 : mh_cv RX6 243 yX6_ragWrong 3 := ⟨⟨Or.inl wd_1085, wd_11, ⟨by decide, by decide⟩, by decide +kernel⟩, wd_1087, ws_77⟩
theorem cv_X6_246 : mh_cv RX6 246 yX6_unlike 1 := ⟨⟨Or.inl wd_1089, wd_11, ⟨by decide, by decide⟩, by decide +kernel⟩, wd_1091, ws_78⟩
theorem cv_L_149 : mh_cv RL 149 yX6_which 2 := ⟨⟨Or.inl wd_1093, wd_11, ⟨by decide, by decide⟩, by decide +kernel⟩, wd_1094, wd_1095⟩
theorem cv_L_153 : mh_cv RL 153 yX6_span 3 := ⟨⟨Or.inl wd_1097, wd_11, ⟨by decide, by decide⟩, by decide +kernel⟩, wd_1098, wd_1099⟩
theorem cv_L_157 : mh_cv RL 157 yX6_laws 3 := ⟨⟨Or.inl wd_1101, wd_11, ⟨by decide, by decide⟩, by decide +kernel⟩, wd_1102, wd_1103⟩
theorem cv_L_161 : mh_cv RL 161 yX6_film 3 := ⟨⟨Or.inl wd_1105, wd_11, ⟨by decide, by decide⟩, by decide +kernel⟩, wd_1106, wd_1107⟩
theorem cv_L_165 : mh_cv RL 165 yX6_slips 4 := ⟨⟨Or.inl wd_1109, wd_11, ⟨by decide, by decide⟩, by decide +kernel⟩, wd_1110, wd_1111⟩
theorem cs_X6_256 : mh_cs RX6 256 yX6_isSeed 1 := ⟨⟨Or.inl wd_1113, wd_11, ⟨by decide, by decide⟩, by decide +kernel⟩, wd_1114⟩
theorem cv_X6_259 : mh_cv RX6 259 yX6_missed 2 := ⟨⟨Or.inl wd_1117, wd_11, ⟨by decide, by decide⟩, by decide +kernel⟩, wd_1119, ws_79⟩
theorem cv_L_170 : mh_cv RL 170 yX6_odds 6 := ⟨⟨Or.inl wd_1124, wd_11, ⟨by decide, by decide⟩, by decide +kernel⟩, wd_1125, wd_1126⟩
theorem cs_X6_262 : mh_cs RX6 262 yX6_lowest_ 3 := ⟨⟨Or.inl wd_1128, wd_11, ⟨by decide, by decide⟩, by decide +kernel⟩, wd_1129⟩
theorem cv_L_174 : mh_cv RL 174 yX6_image 0 := ⟨⟨Or.inl wd_1131, wd_11, ⟨by decide, by decide⟩, by decide +kernel⟩, wd_1132, wd_1133⟩
theorem cv_L_178 : mh_cv RL 178 yX6_restore 0 := ⟨⟨Or.inl wd_1135, wd_11, ⟨by decide, by decide⟩, by decide +kernel⟩, wd_1136, wd_1137⟩
theorem cv_L_182 : mh_cv RL 182 yX6_sheet 3 := ⟨⟨Or.inl wd_1139, wd_11, ⟨by decide, by decide⟩, by decide +kernel⟩, wd_1140, wd_1141⟩
theorem cv_L_186 : mh_cv RL 186 yX6_cell 3 := ⟨⟨Or.inl wd_1143, wd_11, ⟨by decide, by decide⟩, by decide +kernel⟩, wd_1144, wd_1145⟩
theorem cv_L_191 : mh_cv RL 191 yX6_copy 5 := ⟨⟨Or.inl wd_1147, wd_11, ⟨by decide, by decide⟩, by decide +kernel⟩, wd_1148, wd_1149⟩
theorem cv_L_195 : mh_cv RL 195 yX6_knits 4 := ⟨⟨Or.inl wd_1151, wd_11, ⟨by decide, by decide⟩, by decide +kernel⟩, wd_1152, wd_1153⟩
theorem cv_L_199 : mh_cv RL 199 yX6_taken 2 := ⟨⟨Or.inl wd_1155, wd_11, ⟨by decide, by decide⟩, by decide +kernel⟩, wd_1156, wd_1157⟩
theorem cs_X6_272 : mh_cs RX6 272 yX6_isUnder 2 := ⟨⟨Or.inl wd_1159, wd_11, ⟨by decide, by decide⟩, by decide +kernel⟩, wd_1160⟩
theorem cv_X6_275 : mh_cv RX6 275 yX6_pinsIn 1 := ⟨⟨Or.inl wd_1162, wd_11, ⟨by decide, by decide⟩, by decide +kernel⟩, wd_1164, ws_80⟩
