theorem dL_at_0 : decode cL_at 0 = .ok (.iload_n 1, 1) := by decide +kernel
theorem dL_at_1 : decode cL_at 1 = .ok (.aload_n 0, 1) := by decide +kernel
theorem dL_at_2 : decode cL_at 2 = .ok (.arraylength, 1) := by decide +kernel
theorem dL_at_3 : decode cL_at 3 = .ok (.if_icmp .ge 9, 3) := by decide +kernel
theorem dL_at_6 : decode cL_at 6 = .ok (.aload_n 0, 1) := by decide +kernel
theorem dL_at_7 : decode cL_at 7 = .ok (.iload_n 1, 1) := by decide +kernel
theorem dL_at_8 : decode cL_at 8 = .ok (.iaload, 1) := by decide +kernel
theorem dL_at_9 : decode cL_at 9 = .ok (.goto 4, 3) := by decide +kernel
theorem dL_at_12 : decode cL_at 12 = .ok (.iconst 0, 1) := by decide +kernel
theorem dL_at_13 : decode cL_at 13 = .ok (.ireturn, 1) := by decide +kernel
theorem dL_text_0 : decode cL_text 0 = .ok (.iconst 0, 1) := by decide +kernel
theorem dL_text_1 : decode cL_text 1 = .ok (.istore_n 2, 1) := by decide +kernel
theorem dL_text_2 : decode cL_text 2 = .ok (.iload_n 2, 1) := by decide +kernel
theorem dL_text_3 : decode cL_text 3 = .ok (.aload_n 1, 1) := by decide +kernel
theorem dL_text_4 : decode cL_text 4 = .ok (.invokevirtual 7, 3) := by decide +kernel
theorem dL_text_7 : decode cL_text 7 = .ok (.if_icmp .ge 24, 3) := by decide +kernel
theorem dL_text_10 : decode cL_text 10 = .ok (.aload_n 0, 1) := by decide +kernel
theorem dL_text_11 : decode cL_text 11 = .ok (.iconst 1, 1) := by decide +kernel
theorem dL_text_12 : decode cL_text 12 = .ok (.aload_n 1, 1) := by decide +kernel
theorem dL_text_13 : decode cL_text 13 = .ok (.iload_n 2, 1) := by decide +kernel
theorem dL_text_14 : decode cL_text 14 = .ok (.invokevirtual 13, 3) := by decide +kernel
theorem dL_text_17 : decode cL_text 17 = .ok (.iconst 0, 1) := by decide +kernel
theorem dL_text_18 : decode cL_text 18 = .ok (.iconst 0, 1) := by decide +kernel
theorem dL_text_19 : decode cL_text 19 = .ok (.iconst 0, 1) := by decide +kernel
theorem dL_text_20 : decode cL_text 20 = .ok (.iconst 0, 1) := by decide +kernel
theorem dL_text_21 : decode cL_text 21 = .ok (.invokevirtual 17, 3) := by decide +kernel
theorem dL_text_24 : decode cL_text 24 = .ok (.pop, 1) := by decide +kernel
theorem dL_text_25 : decode cL_text 25 = .ok (.iinc 2 1, 3) := by decide +kernel
theorem dL_text_28 : decode cL_text 28 = .ok (.goto (-26), 3) := by decide +kernel
theorem dL_text_31 : decode cL_text 31 = .ok (.return_, 1) := by decide +kernel
theorem dL_build_0 : decode cL_build 0 = .ok (.new 18, 3) := by decide +kernel
theorem dL_build_3 : decode cL_build 3 = .ok (.dup, 1) := by decide +kernel
theorem dL_build_4 : decode cL_build 4 = .ok (.invokespecial 23, 3) := by decide +kernel
theorem dL_build_7 : decode cL_build 7 = .ok (.astore_n 1, 1) := by decide +kernel
theorem dL_build_8 : decode cL_build 8 = .ok (.iconst 0, 1) := by decide +kernel
theorem dL_build_9 : decode cL_build 9 = .ok (.istore_n 2, 1) := by decide +kernel
theorem dL_build_10 : decode cL_build 10 = .ok (.iload_n 2, 1) := by decide +kernel
theorem dL_build_11 : decode cL_build 11 = .ok (.bipush 48, 2) := by decide +kernel
theorem dL_build_13 : decode cL_build 13 = .ok (.if_icmp .ge 40, 3) := by decide +kernel
theorem dL_build_16 : decode cL_build 16 = .ok (.aload_n 1, 1) := by decide +kernel
theorem dL_build_17 : decode cL_build 17 = .ok (.iload_n 2, 1) := by decide +kernel
theorem dL_build_18 : decode cL_build 18 = .ok (.aload_n 0, 1) := by decide +kernel
theorem dL_build_19 : decode cL_build 19 = .ok (.iload_n 2, 1) := by decide +kernel
theorem dL_build_20 : decode cL_build 20 = .ok (.invokestatic 24, 3) := by decide +kernel
theorem dL_build_23 : decode cL_build 23 = .ok (.aload_n 0, 1) := by decide +kernel
theorem dL_build_24 : decode cL_build 24 = .ok (.iload_n 2, 1) := by decide +kernel
theorem dL_build_25 : decode cL_build 25 = .ok (.invokestatic 30, 3) := by decide +kernel
theorem dL_build_28 : decode cL_build 28 = .ok (.invokevirtual 33, 3) := by decide +kernel
theorem dL_build_31 : decode cL_build 31 = .ok (.pop, 1) := by decide +kernel
theorem dL_build_32 : decode cL_build 32 = .ok (.aload_n 0, 1) := by decide +kernel
theorem dL_build_33 : decode cL_build 33 = .ok (.iload_n 2, 1) := by decide +kernel
theorem dL_build_34 : decode cL_build 34 = .ok (.invokestatic 37, 3) := by decide +kernel
theorem dL_build_37 : decode cL_build 37 = .ok (.ifCond .eq 10, 3) := by decide +kernel
theorem dL_build_40 : decode cL_build 40 = .ok (.aload_n 1, 1) := by decide +kernel
theorem dL_build_41 : decode cL_build 41 = .ok (.iload_n 2, 1) := by decide +kernel
theorem dL_build_42 : decode cL_build 42 = .ok (.iconst 1, 1) := by decide +kernel
theorem dL_build_43 : decode cL_build 43 = .ok (.invokevirtual 41, 3) := by decide +kernel
theorem dL_build_46 : decode cL_build 46 = .ok (.pop, 1) := by decide +kernel
theorem dL_build_47 : decode cL_build 47 = .ok (.iinc 2 1, 3) := by decide +kernel
theorem dL_build_50 : decode cL_build 50 = .ok (.goto (-40), 3) := by decide +kernel
theorem dL_build_53 : decode cL_build 53 = .ok (.aload_n 0, 1) := by decide +kernel
theorem dL_build_54 : decode cL_build 54 = .ok (.invokestatic 45, 3) := by decide +kernel
theorem dL_build_57 : decode cL_build 57 = .ok (.ifCond .ne 64, 3) := by decide +kernel
theorem dL_build_60 : decode cL_build 60 = .ok (.aload_n 1, 1) := by decide +kernel
theorem dL_build_61 : decode cL_build 61 = .ok (.new 49, 3) := by decide +kernel
theorem dL_build_64 : decode cL_build 64 = .ok (.dup, 1) := by decide +kernel
theorem dL_build_65 : decode cL_build 65 = .ok (.invokespecial 51, 3) := by decide +kernel
theorem dL_build_68 : decode cL_build 68 = .ok (.ldc 52, 2) := by decide +kernel
theorem dL_build_70 : decode cL_build 70 = .ok (.invokevirtual 54, 3) := by decide +kernel
theorem dL_build_73 : decode cL_build 73 = .ok (.aload_n 0, 1) := by decide +kernel
theorem dL_build_74 : decode cL_build 74 = .ok (.iconst 0, 1) := by decide +kernel
theorem dL_build_75 : decode cL_build 75 = .ok (.invokestatic 58, 3) := by decide +kernel
theorem dL_build_78 : decode cL_build 78 = .ok (.iconst 1, 1) := by decide +kernel
theorem dL_build_79 : decode cL_build 79 = .ok (.iand, 1) := by decide +kernel
theorem dL_build_80 : decode cL_build 80 = .ok (.invokevirtual 61, 3) := by decide +kernel
theorem dL_build_83 : decode cL_build 83 = .ok (.ldc 64, 2) := by decide +kernel
theorem dL_build_85 : decode cL_build 85 = .ok (.invokevirtual 54, 3) := by decide +kernel
theorem dL_build_88 : decode cL_build 88 = .ok (.aload_n 0, 1) := by decide +kernel
theorem dL_build_89 : decode cL_build 89 = .ok (.iconst 0, 1) := by decide +kernel
theorem dL_build_90 : decode cL_build 90 = .ok (.invokestatic 58, 3) := by decide +kernel
theorem dL_build_93 : decode cL_build 93 = .ok (.iconst 3, 1) := by decide +kernel
theorem dL_build_94 : decode cL_build 94 = .ok (.ishr, 1) := by decide +kernel
theorem dL_build_95 : decode cL_build 95 = .ok (.bipush 7, 2) := by decide +kernel
theorem dL_build_97 : decode cL_build 97 = .ok (.iand, 1) := by decide +kernel
theorem dL_build_98 : decode cL_build 98 = .ok (.invokevirtual 61, 3) := by decide +kernel
theorem dL_build_101 : decode cL_build 101 = .ok (.ldc 66, 2) := by decide +kernel
theorem dL_build_103 : decode cL_build 103 = .ok (.invokevirtual 54, 3) := by decide +kernel
theorem dL_build_106 : decode cL_build 106 = .ok (.invokevirtual 68, 3) := by decide +kernel
theorem dL_build_109 : decode cL_build 109 = .ok (.invokestatic 72, 3) := by decide +kernel
theorem dL_build_112 : decode cL_build 112 = .ok (.aload_n 1, 1) := by decide +kernel
theorem dL_build_113 : decode cL_build 113 = .ok (.aload_n 1, 1) := by decide +kernel
theorem dL_build_114 : decode cL_build 114 = .ok (.invokevirtual 76, 3) := by decide +kernel
theorem dL_build_117 : decode cL_build 117 = .ok (.invokevirtual 78, 3) := by decide +kernel
theorem dL_build_120 : decode cL_build 120 = .ok (.pop, 1) := by decide +kernel
theorem dL_build_121 : decode cL_build 121 = .ok (.aload_n 1, 1) := by decide +kernel
theorem dL_build_122 : decode cL_build 122 = .ok (.areturn, 1) := by decide +kernel
theorem dL_plain_0 : decode cL_plain 0 = .ok (.aload_n 0, 1) := by decide +kernel
theorem dL_plain_1 : decode cL_plain 1 = .ok (.iconst 0, 1) := by decide +kernel
theorem dL_plain_2 : decode cL_plain 2 = .ok (.invokestatic 58, 3) := by decide +kernel
theorem dL_plain_5 : decode cL_plain 5 = .ok (.iconst 1, 1) := by decide +kernel
theorem dL_plain_6 : decode cL_plain 6 = .ok (.ishr, 1) := by decide +kernel
theorem dL_plain_7 : decode cL_plain 7 = .ok (.iconst 3, 1) := by decide +kernel
theorem dL_plain_8 : decode cL_plain 8 = .ok (.iand, 1) := by decide +kernel
theorem dL_plain_9 : decode cL_plain 9 = .ok (.iconst 3, 1) := by decide +kernel
theorem dL_plain_10 : decode cL_plain 10 = .ok (.if_icmp .eq 7, 3) := by decide +kernel
theorem dL_plain_13 : decode cL_plain 13 = .ok (.iconst 1, 1) := by decide +kernel
theorem dL_plain_14 : decode cL_plain 14 = .ok (.goto 4, 3) := by decide +kernel
theorem dL_plain_17 : decode cL_plain 17 = .ok (.iconst 0, 1) := by decide +kernel
theorem dL_plain_18 : decode cL_plain 18 = .ok (.ireturn, 1) := by decide +kernel
theorem dL_kind_0 : decode cL_kind 0 = .ok (.aload_n 0, 1) := by decide +kernel
theorem dL_kind_1 : decode cL_kind 1 = .ok (.iconst 1, 1) := by decide +kernel
theorem dL_kind_2 : decode cL_kind 2 = .ok (.iload_n 1, 1) := by decide +kernel
theorem dL_kind_3 : decode cL_kind 3 = .ok (.bipush 12, 2) := by decide +kernel
theorem dL_kind_5 : decode cL_kind 5 = .ok (.idiv, 1) := by decide +kernel
theorem dL_kind_6 : decode cL_kind 6 = .ok (.iadd, 1) := by decide +kernel
theorem dL_kind_7 : decode cL_kind 7 = .ok (.invokestatic 58, 3) := by decide +kernel
theorem dL_kind_10 : decode cL_kind 10 = .ok (.iconst 2, 1) := by decide +kernel
theorem dL_kind_11 : decode cL_kind 11 = .ok (.iload_n 1, 1) := by decide +kernel
theorem dL_kind_12 : decode cL_kind 12 = .ok (.bipush 12, 2) := by decide +kernel
theorem dL_kind_14 : decode cL_kind 14 = .ok (.irem, 1) := by decide +kernel
theorem dL_kind_15 : decode cL_kind 15 = .ok (.imul, 1) := by decide +kernel
theorem dL_kind_16 : decode cL_kind 16 = .ok (.ishr, 1) := by decide +kernel
theorem dL_kind_17 : decode cL_kind 17 = .ok (.iconst 3, 1) := by decide +kernel
theorem dL_kind_18 : decode cL_kind 18 = .ok (.iand, 1) := by decide +kernel
theorem dL_kind_19 : decode cL_kind 19 = .ok (.istore_n 2, 1) := by decide +kernel
theorem dL_kind_20 : decode cL_kind 20 = .ok (.iload_n 2, 1) := by decide +kernel
theorem dL_kind_21 : decode cL_kind 21 = .ok (.ifCond .ne 7, 3) := by decide +kernel
theorem dL_kind_24 : decode cL_kind 24 = .ok (.iconst 1, 1) := by decide +kernel
theorem dL_kind_25 : decode cL_kind 25 = .ok (.goto 31, 3) := by decide +kernel
theorem dL_kind_28 : decode cL_kind 28 = .ok (.iload_n 2, 1) := by decide +kernel
theorem dL_kind_29 : decode cL_kind 29 = .ok (.iconst 3, 1) := by decide +kernel
theorem dL_kind_30 : decode cL_kind 30 = .ok (.if_icmp .ne 25, 3) := by decide +kernel
theorem dL_kind_33 : decode cL_kind 33 = .ok (.aload_n 0, 1) := by decide +kernel
theorem dL_kind_34 : decode cL_kind 34 = .ok (.iconst 5, 1) := by decide +kernel
theorem dL_kind_35 : decode cL_kind 35 = .ok (.iload_n 1, 1) := by decide +kernel
theorem dL_kind_36 : decode cL_kind 36 = .ok (.iconst 4, 1) := by decide +kernel
theorem dL_kind_37 : decode cL_kind 37 = .ok (.irem, 1) := by decide +kernel
theorem dL_kind_38 : decode cL_kind 38 = .ok (.iadd, 1) := by decide +kernel
theorem dL_kind_39 : decode cL_kind 39 = .ok (.invokestatic 58, 3) := by decide +kernel
theorem dL_kind_42 : decode cL_kind 42 = .ok (.iload_n 1, 1) := by decide +kernel
theorem dL_kind_43 : decode cL_kind 43 = .ok (.iconst 4, 1) := by decide +kernel
theorem dL_kind_44 : decode cL_kind 44 = .ok (.idiv, 1) := by decide +kernel
theorem dL_kind_45 : decode cL_kind 45 = .ok (.ishr, 1) := by decide +kernel
theorem dL_kind_46 : decode cL_kind 46 = .ok (.bipush 7, 2) := by decide +kernel
theorem dL_kind_48 : decode cL_kind 48 = .ok (.iand, 1) := by decide +kernel
theorem dL_kind_49 : decode cL_kind 49 = .ok (.bipush 6, 2) := by decide +kernel
theorem dL_kind_51 : decode cL_kind 51 = .ok (.irem, 1) := by decide +kernel
theorem dL_kind_52 : decode cL_kind 52 = .ok (.goto 4, 3) := by decide +kernel
theorem dL_kind_55 : decode cL_kind 55 = .ok (.iconst 0, 1) := by decide +kernel
theorem dL_kind_56 : decode cL_kind 56 = .ok (.ireturn, 1) := by decide +kernel
theorem dL_more_0 : decode cL_more 0 = .ok (.aload_n 0, 1) := by decide +kernel
theorem dL_more_1 : decode cL_more 1 = .ok (.iconst 5, 1) := by decide +kernel
theorem dL_more_2 : decode cL_more 2 = .ok (.iload_n 1, 1) := by decide +kernel
theorem dL_more_3 : decode cL_more 3 = .ok (.iconst 1, 1) := by decide +kernel
theorem dL_more_4 : decode cL_more 4 = .ok (.iadd, 1) := by decide +kernel
theorem dL_more_5 : decode cL_more 5 = .ok (.iconst 4, 1) := by decide +kernel
theorem dL_more_6 : decode cL_more 6 = .ok (.irem, 1) := by decide +kernel
theorem dL_more_7 : decode cL_more 7 = .ok (.iadd, 1) := by decide +kernel
theorem dL_more_8 : decode cL_more 8 = .ok (.invokestatic 58, 3) := by decide +kernel
theorem dL_more_11 : decode cL_more 11 = .ok (.iload_n 1, 1) := by decide +kernel
theorem dL_more_12 : decode cL_more 12 = .ok (.iconst 3, 1) := by decide +kernel
theorem dL_more_13 : decode cL_more 13 = .ok (.idiv, 1) := by decide +kernel
theorem dL_more_14 : decode cL_more 14 = .ok (.ishr, 1) := by decide +kernel
theorem dL_more_15 : decode cL_more 15 = .ok (.bipush 15, 2) := by decide +kernel
theorem dL_more_17 : decode cL_more 17 = .ok (.iand, 1) := by decide +kernel
theorem dL_more_18 : decode cL_more 18 = .ok (.bipush 10, 2) := by decide +kernel
theorem dL_more_20 : decode cL_more 20 = .ok (.irem, 1) := by decide +kernel
theorem dL_more_21 : decode cL_more 21 = .ok (.ireturn, 1) := by decide +kernel
theorem dL_pinned_0 : decode cL_pinned 0 = .ok (.aload_n 0, 1) := by decide +kernel
theorem dL_pinned_1 : decode cL_pinned 1 = .ok (.iconst 0, 1) := by decide +kernel
theorem dL_pinned_2 : decode cL_pinned 2 = .ok (.invokestatic 58, 3) := by decide +kernel
theorem dL_pinned_5 : decode cL_pinned 5 = .ok (.bipush 6, 2) := by decide +kernel
theorem dL_pinned_7 : decode cL_pinned 7 = .ok (.ishr, 1) := by decide +kernel
theorem dL_pinned_8 : decode cL_pinned 8 = .ok (.bipush 63, 2) := by decide +kernel
theorem dL_pinned_10 : decode cL_pinned 10 = .ok (.iand, 1) := by decide +kernel
theorem dL_pinned_11 : decode cL_pinned 11 = .ok (.iload_n 1, 1) := by decide +kernel
theorem dL_pinned_12 : decode cL_pinned 12 = .ok (.if_icmp .eq 18, 3) := by decide +kernel
theorem dL_pinned_15 : decode cL_pinned 15 = .ok (.aload_n 0, 1) := by decide +kernel
theorem dL_pinned_16 : decode cL_pinned 16 = .ok (.iconst 0, 1) := by decide +kernel
theorem dL_pinned_17 : decode cL_pinned 17 = .ok (.invokestatic 58, 3) := by decide +kernel
theorem dL_pinned_20 : decode cL_pinned 20 = .ok (.bipush 12, 2) := by decide +kernel
theorem dL_pinned_22 : decode cL_pinned 22 = .ok (.ishr, 1) := by decide +kernel
theorem dL_pinned_23 : decode cL_pinned 23 = .ok (.bipush 63, 2) := by decide +kernel
theorem dL_pinned_25 : decode cL_pinned 25 = .ok (.iand, 1) := by decide +kernel
theorem dL_pinned_26 : decode cL_pinned 26 = .ok (.iload_n 1, 1) := by decide +kernel
theorem dL_pinned_27 : decode cL_pinned 27 = .ok (.if_icmp .ne 7, 3) := by decide +kernel
theorem dL_pinned_30 : decode cL_pinned 30 = .ok (.iconst 1, 1) := by decide +kernel
theorem dL_pinned_31 : decode cL_pinned 31 = .ok (.goto 4, 3) := by decide +kernel
theorem dL_pinned_34 : decode cL_pinned 34 = .ok (.iconst 0, 1) := by decide +kernel
theorem dL_pinned_35 : decode cL_pinned 35 = .ok (.ireturn, 1) := by decide +kernel
theorem dL_face_0 : decode cL_face 0 = .ok (.aload_n 0, 1) := by decide +kernel
theorem dL_face_1 : decode cL_face 1 = .ok (.iload_n 1, 1) := by decide +kernel
theorem dL_face_2 : decode cL_face 2 = .ok (.invokestatic 24, 3) := by decide +kernel
theorem dL_face_5 : decode cL_face 5 = .ok (.iconst 1, 1) := by decide +kernel
theorem dL_face_6 : decode cL_face 6 = .ok (.if_icmp .ne 7, 3) := by decide +kernel
theorem dL_face_9 : decode cL_face 9 = .ok (.iconst 1, 1) := by decide +kernel
theorem dL_face_10 : decode cL_face 10 = .ok (.goto 4, 3) := by decide +kernel
theorem dL_face_13 : decode cL_face 13 = .ok (.iconst 0, 1) := by decide +kernel
theorem dL_face_14 : decode cL_face 14 = .ok (.ireturn, 1) := by decide +kernel
theorem dL_keeps_0 : decode cL_keeps 0 = .ok (.aload_n 0, 1) := by decide +kernel
theorem dL_keeps_1 : decode cL_keeps 1 = .ok (.iload_n 1, 1) := by decide +kernel
theorem dL_keeps_2 : decode cL_keeps 2 = .ok (.invokestatic 24, 3) := by decide +kernel
theorem dL_keeps_5 : decode cL_keeps 5 = .ok (.iconst 5, 1) := by decide +kernel
theorem dL_keeps_6 : decode cL_keeps 6 = .ok (.if_icmp .eq 11, 3) := by decide +kernel
theorem dL_keeps_9 : decode cL_keeps 9 = .ok (.aload_n 0, 1) := by decide +kernel
theorem dL_keeps_10 : decode cL_keeps 10 = .ok (.iload_n 1, 1) := by decide +kernel
theorem dL_keeps_11 : decode cL_keeps 11 = .ok (.invokestatic 37, 3) := by decide +kernel
theorem dL_keeps_14 : decode cL_keeps 14 = .ok (.ifCond .eq 7, 3) := by decide +kernel
theorem dL_keeps_17 : decode cL_keeps 17 = .ok (.iconst 1, 1) := by decide +kernel
theorem dL_keeps_18 : decode cL_keeps 18 = .ok (.goto 4, 3) := by decide +kernel
theorem dL_keeps_21 : decode cL_keeps 21 = .ok (.iconst 0, 1) := by decide +kernel
theorem dL_keeps_22 : decode cL_keeps 22 = .ok (.ireturn, 1) := by decide +kernel
theorem dL_through_0 : decode cL_through 0 = .ok (.iconst 1, 1) := by decide +kernel
theorem dL_through_1 : decode cL_through 1 = .ok (.iload_n 1, 1) := by decide +kernel
theorem dL_through_2 : decode cL_through 2 = .ok (.bipush 6, 2) := by decide +kernel
theorem dL_through_4 : decode cL_through 4 = .ok (.irem, 1) := by decide +kernel
theorem dL_through_5 : decode cL_through 5 = .ok (.ishl, 1) := by decide +kernel
theorem dL_through_6 : decode cL_through 6 = .ok (.istore_n 2, 1) := by decide +kernel
theorem dL_through_7 : decode cL_through 7 = .ok (.iload_n 1, 1) := by decide +kernel
theorem dL_through_8 : decode cL_through 8 = .ok (.iconst 2, 1) := by decide +kernel
theorem dL_through_9 : decode cL_through 9 = .ok (.irem, 1) := by decide +kernel
theorem dL_through_10 : decode cL_through 10 = .ok (.ifCond .ne 9, 3) := by decide +kernel
theorem dL_through_13 : decode cL_through 13 = .ok (.iload_n 2, 1) := by decide +kernel
theorem dL_through_14 : decode cL_through 14 = .ok (.iconst 1, 1) := by decide +kernel
theorem dL_through_15 : decode cL_through 15 = .ok (.ishl, 1) := by decide +kernel
theorem dL_through_16 : decode cL_through 16 = .ok (.goto 6, 3) := by decide +kernel
theorem dL_through_19 : decode cL_through 19 = .ok (.iload_n 2, 1) := by decide +kernel
theorem dL_through_20 : decode cL_through 20 = .ok (.iconst 1, 1) := by decide +kernel
theorem dL_through_21 : decode cL_through 21 = .ok (.ishr, 1) := by decide +kernel
theorem dL_through_22 : decode cL_through 22 = .ok (.istore_n 3, 1) := by decide +kernel
theorem dL_through_23 : decode cL_through 23 = .ok (.aload_n 0, 1) := by decide +kernel
theorem dL_through_24 : decode cL_through 24 = .ok (.iload_n 1, 1) := by decide +kernel
theorem dL_through_25 : decode cL_through 25 = .ok (.invokestatic 24, 3) := by decide +kernel
theorem dL_through_28 : decode cL_through 28 = .ok (.tableswitch 36 2 4 #[28, 30, 34], 28) := by decide +kernel
theorem dL_through_56 : decode cL_through 56 = .ok (.iload_n 3, 1) := by decide +kernel
theorem dL_through_57 : decode cL_through 57 = .ok (.ireturn, 1) := by decide +kernel
theorem dL_through_58 : decode cL_through 58 = .ok (.iload_n 2, 1) := by decide +kernel
theorem dL_through_59 : decode cL_through 59 = .ok (.iload_n 3, 1) := by decide +kernel
theorem dL_through_60 : decode cL_through 60 = .ok (.ior, 1) := by decide +kernel
theorem dL_through_61 : decode cL_through 61 = .ok (.ireturn, 1) := by decide +kernel
theorem dL_through_62 : decode cL_through 62 = .ok (.iconst 0, 1) := by decide +kernel
theorem dL_through_63 : decode cL_through 63 = .ok (.ireturn, 1) := by decide +kernel
theorem dL_through_64 : decode cL_through 64 = .ok (.iload_n 2, 1) := by decide +kernel
theorem dL_through_65 : decode cL_through 65 = .ok (.ireturn, 1) := by decide +kernel
theorem dL_held_0 : decode cL_held 0 = .ok (.iconst 0, 1) := by decide +kernel
theorem dL_held_1 : decode cL_held 1 = .ok (.iload_n 1, 1) := by decide +kernel
theorem dL_held_2 : decode cL_held 2 = .ok (.iload_n 0, 1) := by decide +kernel
theorem dL_held_3 : decode cL_held 3 = .ok (.invokestatic 82, 3) := by decide +kernel
theorem dL_held_6 : decode cL_held 6 = .ok (.invokestatic 87, 3) := by decide +kernel
theorem dL_held_9 : decode cL_held 9 = .ok (.ireturn, 1) := by decide +kernel
theorem dL_asks_0 : decode cL_asks 0 = .ok (.aload_n 0, 1) := by decide +kernel
theorem dL_asks_1 : decode cL_asks 1 = .ok (.invokestatic 45, 3) := by decide +kernel
theorem dL_asks_4 : decode cL_asks 4 = .ok (.ifCond .eq 51, 3) := by decide +kernel
theorem dL_asks_7 : decode cL_asks 7 = .ok (.iload_n 1, 1) := by decide +kernel
theorem dL_asks_8 : decode cL_asks 8 = .ok (.ifCond .ne 22, 3) := by decide +kernel
theorem dL_asks_11 : decode cL_asks 11 = .ok (.bipush 10, 2) := by decide +kernel
theorem dL_asks_13 : decode cL_asks 13 = .ok (.aload_n 0, 1) := by decide +kernel
theorem dL_asks_14 : decode cL_asks 14 = .ok (.iload_n 2, 1) := by decide +kernel
theorem dL_asks_15 : decode cL_asks 15 = .ok (.invokestatic 30, 3) := by decide +kernel
theorem dL_asks_18 : decode cL_asks 18 = .ok (.iadd, 1) := by decide +kernel
theorem dL_asks_19 : decode cL_asks 19 = .ok (.aload_n 0, 1) := by decide +kernel
theorem dL_asks_20 : decode cL_asks 20 = .ok (.iload_n 2, 1) := by decide +kernel
theorem dL_asks_21 : decode cL_asks 21 = .ok (.invokestatic 90, 3) := by decide +kernel
theorem dL_asks_24 : decode cL_asks 24 = .ok (.iconst 3, 1) := by decide +kernel
theorem dL_asks_25 : decode cL_asks 25 = .ok (.imul, 1) := by decide +kernel
theorem dL_asks_26 : decode cL_asks 26 = .ok (.isub, 1) := by decide +kernel
theorem dL_asks_27 : decode cL_asks 27 = .ok (.goto 93, 3) := by decide +kernel
theorem dL_asks_30 : decode cL_asks 30 = .ok (.iload_n 1, 1) := by decide +kernel
theorem dL_asks_31 : decode cL_asks 31 = .ok (.iconst 1, 1) := by decide +kernel
theorem dL_asks_32 : decode cL_asks 32 = .ok (.if_icmp .ne 13, 3) := by decide +kernel
theorem dL_asks_35 : decode cL_asks 35 = .ok (.iconst 2, 1) := by decide +kernel
theorem dL_asks_36 : decode cL_asks 36 = .ok (.aload_n 0, 1) := by decide +kernel
theorem dL_asks_37 : decode cL_asks 37 = .ok (.iload_n 2, 1) := by decide +kernel
theorem dL_asks_38 : decode cL_asks 38 = .ok (.invokestatic 30, 3) := by decide +kernel
theorem dL_asks_41 : decode cL_asks 41 = .ok (.iadd, 1) := by decide +kernel
theorem dL_asks_42 : decode cL_asks 42 = .ok (.goto 78, 3) := by decide +kernel
theorem dL_asks_45 : decode cL_asks 45 = .ok (.iconst 1, 1) := by decide +kernel
theorem dL_asks_46 : decode cL_asks 46 = .ok (.aload_n 0, 1) := by decide +kernel
theorem dL_asks_47 : decode cL_asks 47 = .ok (.iload_n 2, 1) := by decide +kernel
theorem dL_asks_48 : decode cL_asks 48 = .ok (.invokestatic 90, 3) := by decide +kernel
theorem dL_asks_51 : decode cL_asks 51 = .ok (.iadd, 1) := by decide +kernel
theorem dL_asks_52 : decode cL_asks 52 = .ok (.goto 68, 3) := by decide +kernel
theorem dL_asks_55 : decode cL_asks 55 = .ok (.iload_n 1, 1) := by decide +kernel
theorem dL_asks_56 : decode cL_asks 56 = .ok (.ifCond .ne 26, 3) := by decide +kernel
theorem dL_asks_59 : decode cL_asks 59 = .ok (.iload_n 3, 1) := by decide +kernel
theorem dL_asks_60 : decode cL_asks 60 = .ok (.aload_n 0, 1) := by decide +kernel
theorem dL_asks_61 : decode cL_asks 61 = .ok (.iconst 0, 1) := by decide +kernel
theorem dL_asks_62 : decode cL_asks 62 = .ok (.invokestatic 58, 3) := by decide +kernel
theorem dL_asks_65 : decode cL_asks 65 = .ok (.iconst 1, 1) := by decide +kernel
theorem dL_asks_66 : decode cL_asks 66 = .ok (.iand, 1) := by decide +kernel
theorem dL_asks_67 : decode cL_asks 67 = .ok (.imul, 1) := by decide +kernel
theorem dL_asks_68 : decode cL_asks 68 = .ok (.iload_n 2, 1) := by decide +kernel
theorem dL_asks_69 : decode cL_asks 69 = .ok (.bipush 6, 2) := by decide +kernel
theorem dL_asks_71 : decode cL_asks 71 = .ok (.idiv, 1) := by decide +kernel
theorem dL_asks_72 : decode cL_asks 72 = .ok (.iadd, 1) := by decide +kernel
theorem dL_asks_73 : decode cL_asks 73 = .ok (.aload_n 0, 1) := by decide +kernel
theorem dL_asks_74 : decode cL_asks 74 = .ok (.iload_n 2, 1) := by decide +kernel
theorem dL_asks_75 : decode cL_asks 75 = .ok (.invokestatic 30, 3) := by decide +kernel
theorem dL_asks_78 : decode cL_asks 78 = .ok (.isub, 1) := by decide +kernel
theorem dL_asks_79 : decode cL_asks 79 = .ok (.goto 41, 3) := by decide +kernel
theorem dL_asks_82 : decode cL_asks 82 = .ok (.iload_n 1, 1) := by decide +kernel
theorem dL_asks_83 : decode cL_asks 83 = .ok (.iconst 1, 1) := by decide +kernel
theorem dL_asks_84 : decode cL_asks 84 = .ok (.if_icmp .ne 10, 3) := by decide +kernel
theorem dL_asks_87 : decode cL_asks 87 = .ok (.iload_n 3, 1) := by decide +kernel
theorem dL_asks_88 : decode cL_asks 88 = .ok (.iload 4, 2) := by decide +kernel
theorem dL_asks_90 : decode cL_asks 90 = .ok (.iadd, 1) := by decide +kernel
theorem dL_asks_91 : decode cL_asks 91 = .ok (.goto 29, 3) := by decide +kernel
theorem dL_asks_94 : decode cL_asks 94 = .ok (.iload_n 2, 1) := by decide +kernel
theorem dL_asks_95 : decode cL_asks 95 = .ok (.bipush 6, 2) := by decide +kernel
theorem dL_asks_97 : decode cL_asks 97 = .ok (.irem, 1) := by decide +kernel
theorem dL_asks_98 : decode cL_asks 98 = .ok (.iload_n 2, 1) := by decide +kernel
theorem dL_asks_99 : decode cL_asks 99 = .ok (.bipush 6, 2) := by decide +kernel
theorem dL_asks_101 : decode cL_asks 101 = .ok (.idiv, 1) := by decide +kernel
theorem dL_asks_102 : decode cL_asks 102 = .ok (.imul, 1) := by decide +kernel
theorem dL_asks_103 : decode cL_asks 103 = .ok (.aload_n 0, 1) := by decide +kernel
theorem dL_asks_104 : decode cL_asks 104 = .ok (.iload_n 2, 1) := by decide +kernel
theorem dL_asks_105 : decode cL_asks 105 = .ok (.invokestatic 90, 3) := by decide +kernel
theorem dL_asks_108 : decode cL_asks 108 = .ok (.aload_n 0, 1) := by decide +kernel
theorem dL_asks_109 : decode cL_asks 109 = .ok (.iconst 0, 1) := by decide +kernel
theorem dL_asks_110 : decode cL_asks 110 = .ok (.invokestatic 58, 3) := by decide +kernel
theorem dL_asks_113 : decode cL_asks 113 = .ok (.iconst 3, 1) := by decide +kernel
theorem dL_asks_114 : decode cL_asks 114 = .ok (.ishr, 1) := by decide +kernel
theorem dL_asks_115 : decode cL_asks 115 = .ok (.bipush 7, 2) := by decide +kernel
theorem dL_asks_117 : decode cL_asks 117 = .ok (.iand, 1) := by decide +kernel
theorem dL_asks_118 : decode cL_asks 118 = .ok (.imul, 1) := by decide +kernel
theorem dL_asks_119 : decode cL_asks 119 = .ok (.isub, 1) := by decide +kernel
theorem dL_asks_120 : decode cL_asks 120 = .ok (.istore 5, 2) := by decide +kernel
theorem dL_asks_122 : decode cL_asks 122 = .ok (.iload 5, 2) := by decide +kernel
theorem dL_asks_124 : decode cL_asks 124 = .ok (.bipush 99, 2) := by decide +kernel
theorem dL_asks_126 : decode cL_asks 126 = .ok (.invokestatic 93, 3) := by decide +kernel
theorem dL_asks_129 : decode cL_asks 129 = .ok (.ireturn, 1) := by decide +kernel
theorem dL_rubs_0 : decode cL_rubs 0 = .ok (.aload_n 0, 1) := by decide +kernel
theorem dL_rubs_1 : decode cL_rubs 1 = .ok (.iconst 0, 1) := by decide +kernel
theorem dL_rubs_2 : decode cL_rubs 2 = .ok (.iload_n 1, 1) := by decide +kernel
theorem dL_rubs_3 : decode cL_rubs 3 = .ok (.iload_n 2, 1) := by decide +kernel
theorem dL_rubs_4 : decode cL_rubs 4 = .ok (.iconst 0, 1) := by decide +kernel
theorem dL_rubs_5 : decode cL_rubs 5 = .ok (.invokestatic 96, 3) := by decide +kernel
theorem dL_rubs_8 : decode cL_rubs 8 = .ok (.istore_n 3, 1) := by decide +kernel
theorem dL_rubs_9 : decode cL_rubs 9 = .ok (.aload_n 0, 1) := by decide +kernel
theorem dL_rubs_10 : decode cL_rubs 10 = .ok (.iload_n 1, 1) := by decide +kernel
theorem dL_rubs_11 : decode cL_rubs 11 = .ok (.invokestatic 24, 3) := by decide +kernel
theorem dL_rubs_14 : decode cL_rubs 14 = .ok (.istore 4, 2) := by decide +kernel
theorem dL_rubs_16 : decode cL_rubs 16 = .ok (.iload 4, 2) := by decide +kernel
theorem dL_rubs_18 : decode cL_rubs 18 = .ok (.iconst 3, 1) := by decide +kernel
theorem dL_rubs_19 : decode cL_rubs 19 = .ok (.if_icmp .ne 9, 3) := by decide +kernel
theorem dL_rubs_22 : decode cL_rubs 22 = .ok (.iconst 2, 1) := by decide +kernel
theorem dL_rubs_23 : decode cL_rubs 23 = .ok (.iload_n 3, 1) := by decide +kernel
theorem dL_rubs_24 : decode cL_rubs 24 = .ok (.imul, 1) := by decide +kernel
theorem dL_rubs_25 : decode cL_rubs 25 = .ok (.goto 26, 3) := by decide +kernel
theorem dL_rubs_28 : decode cL_rubs 28 = .ok (.iload 4, 2) := by decide +kernel
theorem dL_rubs_30 : decode cL_rubs 30 = .ok (.iconst 1, 1) := by decide +kernel
theorem dL_rubs_31 : decode cL_rubs 31 = .ok (.if_icmp .eq 9, 3) := by decide +kernel
theorem dL_rubs_34 : decode cL_rubs 34 = .ok (.iload 4, 2) := by decide +kernel
theorem dL_rubs_36 : decode cL_rubs 36 = .ok (.iconst 5, 1) := by decide +kernel
theorem dL_rubs_37 : decode cL_rubs 37 = .ok (.if_icmp .ne 13, 3) := by decide +kernel
theorem dL_rubs_40 : decode cL_rubs 40 = .ok (.iload_n 3, 1) := by decide +kernel
theorem dL_rubs_41 : decode cL_rubs 41 = .ok (.aload_n 0, 1) := by decide +kernel
theorem dL_rubs_42 : decode cL_rubs 42 = .ok (.iload_n 1, 1) := by decide +kernel
theorem dL_rubs_43 : decode cL_rubs 43 = .ok (.invokestatic 30, 3) := by decide +kernel
theorem dL_rubs_46 : decode cL_rubs 46 = .ok (.iadd, 1) := by decide +kernel
theorem dL_rubs_47 : decode cL_rubs 47 = .ok (.goto 4, 3) := by decide +kernel
theorem dL_rubs_50 : decode cL_rubs 50 = .ok (.iload_n 3, 1) := by decide +kernel
theorem dL_rubs_51 : decode cL_rubs 51 = .ok (.ireturn, 1) := by decide +kernel
theorem dL_run_0 : decode cL_run 0 = .ok (.aload_n 1, 1) := by decide +kernel
theorem dL_run_1 : decode cL_run 1 = .ok (.bipush 48, 2) := by decide +kernel
theorem dL_run_3 : decode cL_run 3 = .ok (.lconst 0, 1) := by decide +kernel
theorem dL_run_4 : decode cL_run 4 = .ok (.lastore, 1) := by decide +kernel
theorem dL_run_5 : decode cL_run 5 = .ok (.bipush 47, 2) := by decide +kernel
theorem dL_run_7 : decode cL_run 7 = .ok (.istore 7, 2) := by decide +kernel
theorem dL_run_9 : decode cL_run 9 = .ok (.iload 7, 2) := by decide +kernel
theorem dL_run_11 : decode cL_run 11 = .ok (.ifCond .lt 16, 3) := by decide +kernel
theorem dL_run_14 : decode cL_run 14 = .ok (.aload_n 1, 1) := by decide +kernel
theorem dL_run_15 : decode cL_run 15 = .ok (.iload 7, 2) := by decide +kernel
theorem dL_run_17 : decode cL_run 17 = .ok (.ldc2_w 100, 3) := by decide +kernel
theorem dL_run_20 : decode cL_run 20 = .ok (.lastore, 1) := by decide +kernel
theorem dL_run_21 : decode cL_run 21 = .ok (.iinc 7 (-1), 3) := by decide +kernel
theorem dL_run_24 : decode cL_run 24 = .ok (.goto (-15), 3) := by decide +kernel
theorem dL_run_27 : decode cL_run 27 = .ok (.bipush 7, 2) := by decide +kernel
theorem dL_run_29 : decode cL_run 29 = .ok (.istore 7, 2) := by decide +kernel
theorem dL_run_31 : decode cL_run 31 = .ok (.iload 7, 2) := by decide +kernel
theorem dL_run_33 : decode cL_run 33 = .ok (.ifCond .lt 150, 3) := by decide +kernel
theorem dL_run_36 : decode cL_run 36 = .ok (.bipush 6, 2) := by decide +kernel
theorem dL_run_38 : decode cL_run 38 = .ok (.iload 7, 2) := by decide +kernel
theorem dL_run_40 : decode cL_run 40 = .ok (.imul, 1) := by decide +kernel
theorem dL_run_41 : decode cL_run 41 = .ok (.istore 8, 2) := by decide +kernel
theorem dL_run_43 : decode cL_run 43 = .ok (.iload 8, 2) := by decide +kernel
theorem dL_run_45 : decode cL_run 45 = .ok (.bipush 6, 2) := by decide +kernel
theorem dL_run_47 : decode cL_run 47 = .ok (.iload 7, 2) := by decide +kernel
theorem dL_run_49 : decode cL_run 49 = .ok (.imul, 1) := by decide +kernel
theorem dL_run_50 : decode cL_run 50 = .ok (.bipush 6, 2) := by decide +kernel
theorem dL_run_52 : decode cL_run 52 = .ok (.iadd, 1) := by decide +kernel
theorem dL_run_53 : decode cL_run 53 = .ok (.if_icmp .ge 124, 3) := by decide +kernel
theorem dL_run_56 : decode cL_run 56 = .ok (.aload_n 0, 1) := by decide +kernel
theorem dL_run_57 : decode cL_run 57 = .ok (.iload 8, 2) := by decide +kernel
theorem dL_run_59 : decode cL_run 59 = .ok (.invokestatic 102, 3) := by decide +kernel
theorem dL_run_62 : decode cL_run 62 = .ok (.ifCond .ne 109, 3) := by decide +kernel
theorem dL_run_65 : decode cL_run 65 = .ok (.lload 5, 2) := by decide +kernel
theorem dL_run_67 : decode cL_run 67 = .ok (.iload 8, 2) := by decide +kernel
theorem dL_run_69 : decode cL_run 69 = .ok (.lshr, 1) := by decide +kernel
theorem dL_run_70 : decode cL_run 70 = .ok (.lconst 1, 1) := by decide +kernel
theorem dL_run_71 : decode cL_run 71 = .ok (.land, 1) := by decide +kernel
theorem dL_run_72 : decode cL_run 72 = .ok (.lconst 1, 1) := by decide +kernel
theorem dL_run_73 : decode cL_run 73 = .ok (.lcmp, 1) := by decide +kernel
theorem dL_run_74 : decode cL_run 74 = .ok (.ifCond .ne 6, 3) := by decide +kernel
theorem dL_run_77 : decode cL_run 77 = .ok (.goto 94, 3) := by decide +kernel
theorem dL_run_80 : decode cL_run 80 = .ok (.aload_n 0, 1) := by decide +kernel
theorem dL_run_81 : decode cL_run 81 = .ok (.aload_n 1, 1) := by decide +kernel
theorem dL_run_82 : decode cL_run 82 = .ok (.iload 8, 2) := by decide +kernel
theorem dL_run_84 : decode cL_run 84 = .ok (.invokestatic 105, 3) := by decide +kernel
theorem dL_run_87 : decode cL_run 87 = .ok (.lstore 9, 2) := by decide +kernel
theorem dL_run_89 : decode cL_run 89 = .ok (.lload_n 2, 1) := by decide +kernel
theorem dL_run_90 : decode cL_run 90 = .ok (.iload 8, 2) := by decide +kernel
theorem dL_run_92 : decode cL_run 92 = .ok (.lshr, 1) := by decide +kernel
theorem dL_run_93 : decode cL_run 93 = .ok (.lconst 1, 1) := by decide +kernel
theorem dL_run_94 : decode cL_run 94 = .ok (.land, 1) := by decide +kernel
theorem dL_run_95 : decode cL_run 95 = .ok (.lconst 1, 1) := by decide +kernel
theorem dL_run_96 : decode cL_run 96 = .ok (.lcmp, 1) := by decide +kernel
theorem dL_run_97 : decode cL_run 97 = .ok (.ifCond .ne 13, 3) := by decide +kernel
theorem dL_run_100 : decode cL_run 100 = .ok (.aload_n 1, 1) := by decide +kernel
theorem dL_run_101 : decode cL_run 101 = .ok (.iload 8, 2) := by decide +kernel
theorem dL_run_103 : decode cL_run 103 = .ok (.iload 4, 2) := by decide +kernel
theorem dL_run_105 : decode cL_run 105 = .ok (.i2l, 1) := by decide +kernel
theorem dL_run_106 : decode cL_run 106 = .ok (.lastore, 1) := by decide +kernel
theorem dL_run_107 : decode cL_run 107 = .ok (.goto 43, 3) := by decide +kernel
theorem dL_run_110 : decode cL_run 110 = .ok (.lload 9, 2) := by decide +kernel
theorem dL_run_112 : decode cL_run 112 = .ok (.lconst 0, 1) := by decide +kernel
theorem dL_run_113 : decode cL_run 113 = .ok (.lcmp, 1) := by decide +kernel
theorem dL_run_114 : decode cL_run 114 = .ok (.ifCond .lt 36, 3) := by decide +kernel
theorem dL_run_117 : decode cL_run 117 = .ok (.lload 9, 2) := by decide +kernel
theorem dL_run_119 : decode cL_run 119 = .ok (.aload_n 0, 1) := by decide +kernel
theorem dL_run_120 : decode cL_run 120 = .ok (.iload 8, 2) := by decide +kernel
theorem dL_run_122 : decode cL_run 122 = .ok (.lload 9, 2) := by decide +kernel
theorem dL_run_124 : decode cL_run 124 = .ok (.l2i, 1) := by decide +kernel
theorem dL_run_125 : decode cL_run 125 = .ok (.invokestatic 109, 3) := by decide +kernel
theorem dL_run_128 : decode cL_run 128 = .ok (.i2l, 1) := by decide +kernel
theorem dL_run_129 : decode cL_run 129 = .ok (.lcmp, 1) := by decide +kernel
theorem dL_run_130 : decode cL_run 130 = .ok (.ifCond .le 20, 3) := by decide +kernel
theorem dL_run_133 : decode cL_run 133 = .ok (.aload_n 1, 1) := by decide +kernel
theorem dL_run_134 : decode cL_run 134 = .ok (.iload 8, 2) := by decide +kernel
theorem dL_run_136 : decode cL_run 136 = .ok (.lload 9, 2) := by decide +kernel
theorem dL_run_138 : decode cL_run 138 = .ok (.aload_n 0, 1) := by decide +kernel
theorem dL_run_139 : decode cL_run 139 = .ok (.iload 8, 2) := by decide +kernel
theorem dL_run_141 : decode cL_run 141 = .ok (.lload 9, 2) := by decide +kernel
theorem dL_run_143 : decode cL_run 143 = .ok (.l2i, 1) := by decide +kernel
theorem dL_run_144 : decode cL_run 144 = .ok (.invokestatic 109, 3) := by decide +kernel
theorem dL_run_147 : decode cL_run 147 = .ok (.i2l, 1) := by decide +kernel
theorem dL_run_148 : decode cL_run 148 = .ok (.lsub, 1) := by decide +kernel
theorem dL_run_149 : decode cL_run 149 = .ok (.lastore, 1) := by decide +kernel
theorem dL_run_150 : decode cL_run 150 = .ok (.aload_n 1, 1) := by decide +kernel
theorem dL_run_151 : decode cL_run 151 = .ok (.bipush 48, 2) := by decide +kernel
theorem dL_run_153 : decode cL_run 153 = .ok (.dup2, 1) := by decide +kernel
theorem dL_run_154 : decode cL_run 154 = .ok (.laload, 1) := by decide +kernel
theorem dL_run_155 : decode cL_run 155 = .ok (.aload_n 1, 1) := by decide +kernel
theorem dL_run_156 : decode cL_run 156 = .ok (.iload 8, 2) := by decide +kernel
theorem dL_run_158 : decode cL_run 158 = .ok (.laload, 1) := by decide +kernel
theorem dL_run_159 : decode cL_run 159 = .ok (.lconst 0, 1) := by decide +kernel
theorem dL_run_160 : decode cL_run 160 = .ok (.lcmp, 1) := by decide +kernel
theorem dL_run_161 : decode cL_run 161 = .ok (.ifCond .lt 7, 3) := by decide +kernel
theorem dL_run_164 : decode cL_run 164 = .ok (.lconst 1, 1) := by decide +kernel
theorem dL_run_165 : decode cL_run 165 = .ok (.goto 4, 3) := by decide +kernel
theorem dL_run_168 : decode cL_run 168 = .ok (.lconst 0, 1) := by decide +kernel
theorem dL_run_169 : decode cL_run 169 = .ok (.ladd, 1) := by decide +kernel
theorem dL_run_170 : decode cL_run 170 = .ok (.lastore, 1) := by decide +kernel
theorem dL_run_171 : decode cL_run 171 = .ok (.iinc 8 1, 3) := by decide +kernel
theorem dL_run_174 : decode cL_run 174 = .ok (.goto (-131), 3) := by decide +kernel
theorem dL_run_177 : decode cL_run 177 = .ok (.iinc 7 (-1), 3) := by decide +kernel
theorem dL_run_180 : decode cL_run 180 = .ok (.goto (-149), 3) := by decide +kernel
theorem dL_run_183 : decode cL_run 183 = .ok (.return_, 1) := by decide +kernel
theorem dL_come_0 : decode cL_come 0 = .ok (.ldc2_w 100, 3) := by decide +kernel
theorem dL_come_3 : decode cL_come 3 = .ok (.lstore_n 3, 1) := by decide +kernel
theorem dL_come_4 : decode cL_come 4 = .ok (.iload_n 2, 1) := by decide +kernel
theorem dL_come_5 : decode cL_come 5 = .ok (.bipush 6, 2) := by decide +kernel
theorem dL_come_7 : decode cL_come 7 = .ok (.idiv, 1) := by decide +kernel
theorem dL_come_8 : decode cL_come 8 = .ok (.bipush 6, 2) := by decide +kernel
theorem dL_come_10 : decode cL_come 10 = .ok (.imul, 1) := by decide +kernel
theorem dL_come_11 : decode cL_come 11 = .ok (.bipush 6, 2) := by decide +kernel
theorem dL_come_13 : decode cL_come 13 = .ok (.iadd, 1) := by decide +kernel
theorem dL_come_14 : decode cL_come 14 = .ok (.istore 5, 2) := by decide +kernel
theorem dL_come_16 : decode cL_come 16 = .ok (.iload 5, 2) := by decide +kernel
theorem dL_come_18 : decode cL_come 18 = .ok (.bipush 48, 2) := by decide +kernel
theorem dL_come_20 : decode cL_come 20 = .ok (.if_icmp .ge 65, 3) := by decide +kernel
theorem dL_come_23 : decode cL_come 23 = .ok (.iload 5, 2) := by decide +kernel
theorem dL_come_25 : decode cL_come 25 = .ok (.iload_n 2, 1) := by decide +kernel
theorem dL_come_26 : decode cL_come 26 = .ok (.bipush 6, 2) := by decide +kernel
theorem dL_come_28 : decode cL_come 28 = .ok (.idiv, 1) := by decide +kernel
theorem dL_come_29 : decode cL_come 29 = .ok (.bipush 6, 2) := by decide +kernel
theorem dL_come_31 : decode cL_come 31 = .ok (.imul, 1) := by decide +kernel
theorem dL_come_32 : decode cL_come 32 = .ok (.bipush 12, 2) := by decide +kernel
theorem dL_come_34 : decode cL_come 34 = .ok (.iadd, 1) := by decide +kernel
theorem dL_come_35 : decode cL_come 35 = .ok (.if_icmp .ge 50, 3) := by decide +kernel
theorem dL_come_38 : decode cL_come 38 = .ok (.aload_n 0, 1) := by decide +kernel
theorem dL_come_39 : decode cL_come 39 = .ok (.iload 5, 2) := by decide +kernel
theorem dL_come_41 : decode cL_come 41 = .ok (.invokestatic 113, 3) := by decide +kernel
theorem dL_come_44 : decode cL_come 44 = .ok (.iload_n 2, 1) := by decide +kernel
theorem dL_come_45 : decode cL_come 45 = .ok (.bipush 6, 2) := by decide +kernel
theorem dL_come_47 : decode cL_come 47 = .ok (.irem, 1) := by decide +kernel
theorem dL_come_48 : decode cL_come 48 = .ok (.ishr, 1) := by decide +kernel
theorem dL_come_49 : decode cL_come 49 = .ok (.iconst 1, 1) := by decide +kernel
theorem dL_come_50 : decode cL_come 50 = .ok (.iand, 1) := by decide +kernel
theorem dL_come_51 : decode cL_come 51 = .ok (.ifCond .ne 6, 3) := by decide +kernel
theorem dL_come_54 : decode cL_come 54 = .ok (.goto 25, 3) := by decide +kernel
theorem dL_come_57 : decode cL_come 57 = .ok (.aload_n 1, 1) := by decide +kernel
theorem dL_come_58 : decode cL_come 58 = .ok (.iload 5, 2) := by decide +kernel
theorem dL_come_60 : decode cL_come 60 = .ok (.laload, 1) := by decide +kernel
theorem dL_come_61 : decode cL_come 61 = .ok (.lconst 0, 1) := by decide +kernel
theorem dL_come_62 : decode cL_come 62 = .ok (.lcmp, 1) := by decide +kernel
theorem dL_come_63 : decode cL_come 63 = .ok (.ifCond .ge 7, 3) := by decide +kernel
theorem dL_come_66 : decode cL_come 66 = .ok (.ldc2_w 100, 3) := by decide +kernel
theorem dL_come_69 : decode cL_come 69 = .ok (.lreturn, 1) := by decide +kernel
theorem dL_come_70 : decode cL_come 70 = .ok (.lload_n 3, 1) := by decide +kernel
theorem dL_come_71 : decode cL_come 71 = .ok (.aload_n 1, 1) := by decide +kernel
theorem dL_come_72 : decode cL_come 72 = .ok (.iload 5, 2) := by decide +kernel
theorem dL_come_74 : decode cL_come 74 = .ok (.laload, 1) := by decide +kernel
theorem dL_come_75 : decode cL_come 75 = .ok (.invokestatic 116, 3) := by decide +kernel
theorem dL_come_78 : decode cL_come 78 = .ok (.lstore_n 3, 1) := by decide +kernel
theorem dL_come_79 : decode cL_come 79 = .ok (.iinc 5 1, 3) := by decide +kernel
theorem dL_come_82 : decode cL_come 82 = .ok (.goto (-66), 3) := by decide +kernel
theorem dL_come_85 : decode cL_come 85 = .ok (.lload_n 3, 1) := by decide +kernel
theorem dL_come_86 : decode cL_come 86 = .ok (.lreturn, 1) := by decide +kernel
theorem dL_law_0 : decode cL_law 0 = .ok (.aload_n 0, 1) := by decide +kernel
theorem dL_law_1 : decode cL_law 1 = .ok (.invokestatic 119, 3) := by decide +kernel
theorem dL_law_4 : decode cL_law 4 = .ok (.astore_n 1, 1) := by decide +kernel
theorem dL_law_5 : decode cL_law 5 = .ok (.bipush 50, 2) := by decide +kernel
theorem dL_law_7 : decode cL_law 7 = .ok (.newarray .long, 2) := by decide +kernel
theorem dL_law_9 : decode cL_law 9 = .ok (.astore_n 2, 1) := by decide +kernel
theorem dL_law_10 : decode cL_law 10 = .ok (.aload_n 0, 1) := by decide +kernel
theorem dL_law_11 : decode cL_law 11 = .ok (.bipush 9, 2) := by decide +kernel
theorem dL_law_13 : decode cL_law 13 = .ok (.invokestatic 58, 3) := by decide +kernel
theorem dL_law_16 : decode cL_law 16 = .ok (.bipush 63, 2) := by decide +kernel
theorem dL_law_18 : decode cL_law 18 = .ok (.iand, 1) := by decide +kernel
theorem dL_law_19 : decode cL_law 19 = .ok (.bipush 48, 2) := by decide +kernel
theorem dL_law_21 : decode cL_law 21 = .ok (.irem, 1) := by decide +kernel
theorem dL_law_22 : decode cL_law 22 = .ok (.istore_n 3, 1) := by decide +kernel
theorem dL_law_23 : decode cL_law 23 = .ok (.aload_n 0, 1) := by decide +kernel
theorem dL_law_24 : decode cL_law 24 = .ok (.bipush 9, 2) := by decide +kernel
theorem dL_law_26 : decode cL_law 26 = .ok (.invokestatic 58, 3) := by decide +kernel
theorem dL_law_29 : decode cL_law 29 = .ok (.bipush 6, 2) := by decide +kernel
theorem dL_law_31 : decode cL_law 31 = .ok (.ishr, 1) := by decide +kernel
theorem dL_law_32 : decode cL_law 32 = .ok (.bipush 127, 2) := by decide +kernel
theorem dL_law_34 : decode cL_law 34 = .ok (.iand, 1) := by decide +kernel
theorem dL_law_35 : decode cL_law 35 = .ok (.bipush 100, 2) := by decide +kernel
theorem dL_law_37 : decode cL_law 37 = .ok (.irem, 1) := by decide +kernel
theorem dL_law_38 : decode cL_law 38 = .ok (.istore 4, 2) := by decide +kernel
theorem dL_law_40 : decode cL_law 40 = .ok (.iconst 0, 1) := by decide +kernel
theorem dL_law_41 : decode cL_law 41 = .ok (.istore 5, 2) := by decide +kernel
theorem dL_law_43 : decode cL_law 43 = .ok (.iload 5, 2) := by decide +kernel
theorem dL_law_45 : decode cL_law 45 = .ok (.iconst 3, 1) := by decide +kernel
theorem dL_law_46 : decode cL_law 46 = .ok (.if_icmp .ge 419, 3) := by decide +kernel
theorem dL_law_49 : decode cL_law 49 = .ok (.iload 5, 2) := by decide +kernel
theorem dL_law_51 : decode cL_law 51 = .ok (.ifCond .ne 7, 3) := by decide +kernel
theorem dL_law_54 : decode cL_law 54 = .ok (.iload_n 3, 1) := by decide +kernel
theorem dL_law_55 : decode cL_law 55 = .ok (.goto 16, 3) := by decide +kernel
theorem dL_law_58 : decode cL_law 58 = .ok (.bipush 47, 2) := by decide +kernel
theorem dL_law_60 : decode cL_law 60 = .ok (.iload_n 3, 1) := by decide +kernel
theorem dL_law_61 : decode cL_law 61 = .ok (.iload 5, 2) := by decide +kernel
theorem dL_law_63 : decode cL_law 63 = .ok (.bipush 7, 2) := by decide +kernel
theorem dL_law_65 : decode cL_law 65 = .ok (.imul, 1) := by decide +kernel
theorem dL_law_66 : decode cL_law 66 = .ok (.iadd, 1) := by decide +kernel
theorem dL_law_67 : decode cL_law 67 = .ok (.bipush 12, 2) := by decide +kernel
theorem dL_law_69 : decode cL_law 69 = .ok (.irem, 1) := by decide +kernel
theorem dL_law_70 : decode cL_law 70 = .ok (.isub, 1) := by decide +kernel
theorem dL_law_71 : decode cL_law 71 = .ok (.istore 6, 2) := by decide +kernel
theorem dL_law_73 : decode cL_law 73 = .ok (.aload_n 0, 1) := by decide +kernel
theorem dL_law_74 : decode cL_law 74 = .ok (.aload_n 2, 1) := by decide +kernel
theorem dL_law_75 : decode cL_law 75 = .ok (.lconst 1, 1) := by decide +kernel
theorem dL_law_76 : decode cL_law 76 = .ok (.iload 6, 2) := by decide +kernel
theorem dL_law_78 : decode cL_law 78 = .ok (.lshl, 1) := by decide +kernel
theorem dL_law_79 : decode cL_law 79 = .ok (.iload 4, 2) := by decide +kernel
theorem dL_law_81 : decode cL_law 81 = .ok (.lconst 0, 1) := by decide +kernel
theorem dL_law_82 : decode cL_law 82 = .ok (.invokestatic 123, 3) := by decide +kernel
theorem dL_law_85 : decode cL_law 85 = .ok (.lconst 0, 1) := by decide +kernel
theorem dL_law_86 : decode cL_law 86 = .ok (.lstore 7, 2) := by decide +kernel
theorem dL_law_88 : decode cL_law 88 = .ok (.lconst 0, 1) := by decide +kernel
theorem dL_law_89 : decode cL_law 89 = .ok (.lstore 9, 2) := by decide +kernel
theorem dL_law_91 : decode cL_law 91 = .ok (.iconst (-1), 1) := by decide +kernel
theorem dL_law_92 : decode cL_law 92 = .ok (.istore 11, 2) := by decide +kernel
theorem dL_law_94 : decode cL_law 94 = .ok (.iconst 0, 1) := by decide +kernel
theorem dL_law_95 : decode cL_law 95 = .ok (.istore 12, 2) := by decide +kernel
theorem dL_law_97 : decode cL_law 97 = .ok (.iconst 0, 1) := by decide +kernel
theorem dL_law_98 : decode cL_law 98 = .ok (.istore 13, 2) := by decide +kernel
theorem dL_law_100 : decode cL_law 100 = .ok (.bipush 47, 2) := by decide +kernel
theorem dL_law_102 : decode cL_law 102 = .ok (.istore 14, 2) := by decide +kernel
theorem dL_law_104 : decode cL_law 104 = .ok (.iload 14, 2) := by decide +kernel
theorem dL_law_106 : decode cL_law 106 = .ok (.ifCond .lt 115, 3) := by decide +kernel
theorem dL_law_109 : decode cL_law 109 = .ok (.aload_n 1, 1) := by decide +kernel
theorem dL_law_110 : decode cL_law 110 = .ok (.iload 6, 2) := by decide +kernel
theorem dL_law_112 : decode cL_law 112 = .ok (.iload 4, 2) := by decide +kernel
theorem dL_law_114 : decode cL_law 114 = .ok (.iload 14, 2) := by decide +kernel
theorem dL_law_116 : decode cL_law 116 = .ok (.invokevirtual 127, 3) := by decide +kernel
theorem dL_law_119 : decode cL_law 119 = .ok (.i2l, 1) := by decide +kernel
theorem dL_law_120 : decode cL_law 120 = .ok (.aload_n 2, 1) := by decide +kernel
theorem dL_law_121 : decode cL_law 121 = .ok (.iload 14, 2) := by decide +kernel
theorem dL_law_123 : decode cL_law 123 = .ok (.laload, 1) := by decide +kernel
theorem dL_law_124 : decode cL_law 124 = .ok (.lcmp, 1) := by decide +kernel
theorem dL_law_125 : decode cL_law 125 = .ok (.ifCond .eq 5, 3) := by decide +kernel
theorem dL_law_128 : decode cL_law 128 = .ok (.iconst 0, 1) := by decide +kernel
theorem dL_law_129 : decode cL_law 129 = .ok (.ireturn, 1) := by decide +kernel
theorem dL_law_130 : decode cL_law 130 = .ok (.aload_n 2, 1) := by decide +kernel
theorem dL_law_131 : decode cL_law 131 = .ok (.iload 14, 2) := by decide +kernel
theorem dL_law_133 : decode cL_law 133 = .ok (.laload, 1) := by decide +kernel
theorem dL_law_134 : decode cL_law 134 = .ok (.lconst 0, 1) := by decide +kernel
theorem dL_law_135 : decode cL_law 135 = .ok (.lcmp, 1) := by decide +kernel
theorem dL_law_136 : decode cL_law 136 = .ok (.ifCond .ge 27, 3) := by decide +kernel
theorem dL_law_139 : decode cL_law 139 = .ok (.aload_n 0, 1) := by decide +kernel
theorem dL_law_140 : decode cL_law 140 = .ok (.aload_n 2, 1) := by decide +kernel
theorem dL_law_141 : decode cL_law 141 = .ok (.iload 14, 2) := by decide +kernel
theorem dL_law_143 : decode cL_law 143 = .ok (.invokestatic 105, 3) := by decide +kernel
theorem dL_law_146 : decode cL_law 146 = .ok (.lconst 0, 1) := by decide +kernel
theorem dL_law_147 : decode cL_law 147 = .ok (.lcmp, 1) := by decide +kernel
theorem dL_law_148 : decode cL_law 148 = .ok (.ifCond .lt 67, 3) := by decide +kernel
theorem dL_law_151 : decode cL_law 151 = .ok (.lload 9, 2) := by decide +kernel
theorem dL_law_153 : decode cL_law 153 = .ok (.lconst 1, 1) := by decide +kernel
theorem dL_law_154 : decode cL_law 154 = .ok (.iload 14, 2) := by decide +kernel
theorem dL_law_156 : decode cL_law 156 = .ok (.lshl, 1) := by decide +kernel
theorem dL_law_157 : decode cL_law 157 = .ok (.lor, 1) := by decide +kernel
theorem dL_law_158 : decode cL_law 158 = .ok (.lstore 9, 2) := by decide +kernel
theorem dL_law_160 : decode cL_law 160 = .ok (.goto 55, 3) := by decide +kernel
theorem dL_law_163 : decode cL_law 163 = .ok (.lload 7, 2) := by decide +kernel
theorem dL_law_165 : decode cL_law 165 = .ok (.lconst 1, 1) := by decide +kernel
theorem dL_law_166 : decode cL_law 166 = .ok (.iload 14, 2) := by decide +kernel
theorem dL_law_168 : decode cL_law 168 = .ok (.lshl, 1) := by decide +kernel
theorem dL_law_169 : decode cL_law 169 = .ok (.lor, 1) := by decide +kernel
theorem dL_law_170 : decode cL_law 170 = .ok (.lstore 7, 2) := by decide +kernel
theorem dL_law_172 : decode cL_law 172 = .ok (.iload 14, 2) := by decide +kernel
theorem dL_law_174 : decode cL_law 174 = .ok (.bipush 6, 2) := by decide +kernel
theorem dL_law_176 : decode cL_law 176 = .ok (.idiv, 1) := by decide +kernel
theorem dL_law_177 : decode cL_law 177 = .ok (.istore 11, 2) := by decide +kernel
theorem dL_law_179 : decode cL_law 179 = .ok (.iload 12, 2) := by decide +kernel
theorem dL_law_181 : decode cL_law 181 = .ok (.aload_n 0, 1) := by decide +kernel
theorem dL_law_182 : decode cL_law 182 = .ok (.iconst 1, 1) := by decide +kernel
theorem dL_law_183 : decode cL_law 183 = .ok (.iload 14, 2) := by decide +kernel
theorem dL_law_185 : decode cL_law 185 = .ok (.aload_n 2, 1) := by decide +kernel
theorem dL_law_186 : decode cL_law 186 = .ok (.iload 14, 2) := by decide +kernel
theorem dL_law_188 : decode cL_law 188 = .ok (.laload, 1) := by decide +kernel
theorem dL_law_189 : decode cL_law 189 = .ok (.l2i, 1) := by decide +kernel
theorem dL_law_190 : decode cL_law 190 = .ok (.iconst 0, 1) := by decide +kernel
theorem dL_law_191 : decode cL_law 191 = .ok (.invokestatic 96, 3) := by decide +kernel
theorem dL_law_194 : decode cL_law 194 = .ok (.iadd, 1) := by decide +kernel
theorem dL_law_195 : decode cL_law 195 = .ok (.istore 12, 2) := by decide +kernel
theorem dL_law_197 : decode cL_law 197 = .ok (.iload 13, 2) := by decide +kernel
theorem dL_law_199 : decode cL_law 199 = .ok (.aload_n 0, 1) := by decide +kernel
theorem dL_law_200 : decode cL_law 200 = .ok (.iconst 2, 1) := by decide +kernel
theorem dL_law_201 : decode cL_law 201 = .ok (.iload 14, 2) := by decide +kernel
theorem dL_law_203 : decode cL_law 203 = .ok (.aload_n 2, 1) := by decide +kernel
theorem dL_law_204 : decode cL_law 204 = .ok (.iload 14, 2) := by decide +kernel
theorem dL_law_206 : decode cL_law 206 = .ok (.laload, 1) := by decide +kernel
theorem dL_law_207 : decode cL_law 207 = .ok (.l2i, 1) := by decide +kernel
theorem dL_law_208 : decode cL_law 208 = .ok (.iconst 0, 1) := by decide +kernel
theorem dL_law_209 : decode cL_law 209 = .ok (.invokestatic 96, 3) := by decide +kernel
theorem dL_law_212 : decode cL_law 212 = .ok (.iadd, 1) := by decide +kernel
theorem dL_law_213 : decode cL_law 213 = .ok (.istore 13, 2) := by decide +kernel
theorem dL_law_215 : decode cL_law 215 = .ok (.iinc 14 (-1), 3) := by decide +kernel
theorem dL_law_218 : decode cL_law 218 = .ok (.goto (-114), 3) := by decide +kernel
theorem dL_law_221 : decode cL_law 221 = .ok (.aload_n 1, 1) := by decide +kernel
theorem dL_law_222 : decode cL_law 222 = .ok (.iload 6, 2) := by decide +kernel
theorem dL_law_224 : decode cL_law 224 = .ok (.iload 4, 2) := by decide +kernel
theorem dL_law_226 : decode cL_law 226 = .ok (.iconst 0, 1) := by decide +kernel
theorem dL_law_227 : decode cL_law 227 = .ok (.invokevirtual 130, 3) := by decide +kernel
theorem dL_law_230 : decode cL_law 230 = .ok (.lload 7, 2) := by decide +kernel
theorem dL_law_232 : decode cL_law 232 = .ok (.lcmp, 1) := by decide +kernel
theorem dL_law_233 : decode cL_law 233 = .ok (.ifCond .ne 78, 3) := by decide +kernel
theorem dL_law_236 : decode cL_law 236 = .ok (.aload_n 1, 1) := by decide +kernel
theorem dL_law_237 : decode cL_law 237 = .ok (.iload 6, 2) := by decide +kernel
theorem dL_law_239 : decode cL_law 239 = .ok (.iload 4, 2) := by decide +kernel
theorem dL_law_241 : decode cL_law 241 = .ok (.iconst 1, 1) := by decide +kernel
theorem dL_law_242 : decode cL_law 242 = .ok (.invokevirtual 130, 3) := by decide +kernel
theorem dL_law_245 : decode cL_law 245 = .ok (.lload 9, 2) := by decide +kernel
theorem dL_law_247 : decode cL_law 247 = .ok (.lcmp, 1) := by decide +kernel
theorem dL_law_248 : decode cL_law 248 = .ok (.ifCond .ne 63, 3) := by decide +kernel
theorem dL_law_251 : decode cL_law 251 = .ok (.aload_n 1, 1) := by decide +kernel
theorem dL_law_252 : decode cL_law 252 = .ok (.iload 6, 2) := by decide +kernel
theorem dL_law_254 : decode cL_law 254 = .ok (.iload 4, 2) := by decide +kernel
theorem dL_law_256 : decode cL_law 256 = .ok (.iconst 0, 1) := by decide +kernel
theorem dL_law_257 : decode cL_law 257 = .ok (.invokevirtual 134, 3) := by decide +kernel
theorem dL_law_260 : decode cL_law 260 = .ok (.i2l, 1) := by decide +kernel
theorem dL_law_261 : decode cL_law 261 = .ok (.aload_n 2, 1) := by decide +kernel
theorem dL_law_262 : decode cL_law 262 = .ok (.bipush 48, 2) := by decide +kernel
theorem dL_law_264 : decode cL_law 264 = .ok (.laload, 1) := by decide +kernel
theorem dL_law_265 : decode cL_law 265 = .ok (.lcmp, 1) := by decide +kernel
theorem dL_law_266 : decode cL_law 266 = .ok (.ifCond .ne 45, 3) := by decide +kernel
theorem dL_law_269 : decode cL_law 269 = .ok (.aload_n 1, 1) := by decide +kernel
theorem dL_law_270 : decode cL_law 270 = .ok (.iload 6, 2) := by decide +kernel
theorem dL_law_272 : decode cL_law 272 = .ok (.iload 4, 2) := by decide +kernel
theorem dL_law_274 : decode cL_law 274 = .ok (.iconst 1, 1) := by decide +kernel
theorem dL_law_275 : decode cL_law 275 = .ok (.invokevirtual 134, 3) := by decide +kernel
theorem dL_law_278 : decode cL_law 278 = .ok (.iload 11, 2) := by decide +kernel
theorem dL_law_280 : decode cL_law 280 = .ok (.if_icmp .ne 31, 3) := by decide +kernel
theorem dL_law_283 : decode cL_law 283 = .ok (.aload_n 1, 1) := by decide +kernel
theorem dL_law_284 : decode cL_law 284 = .ok (.iload 6, 2) := by decide +kernel
theorem dL_law_286 : decode cL_law 286 = .ok (.iload 4, 2) := by decide +kernel
theorem dL_law_288 : decode cL_law 288 = .ok (.iconst 2, 1) := by decide +kernel
theorem dL_law_289 : decode cL_law 289 = .ok (.invokevirtual 134, 3) := by decide +kernel
theorem dL_law_292 : decode cL_law 292 = .ok (.iload 12, 2) := by decide +kernel
theorem dL_law_294 : decode cL_law 294 = .ok (.if_icmp .ne 17, 3) := by decide +kernel
theorem dL_law_297 : decode cL_law 297 = .ok (.aload_n 1, 1) := by decide +kernel
theorem dL_law_298 : decode cL_law 298 = .ok (.iload 6, 2) := by decide +kernel
theorem dL_law_300 : decode cL_law 300 = .ok (.iload 4, 2) := by decide +kernel
theorem dL_law_302 : decode cL_law 302 = .ok (.iconst 3, 1) := by decide +kernel
theorem dL_law_303 : decode cL_law 303 = .ok (.invokevirtual 134, 3) := by decide +kernel
theorem dL_law_306 : decode cL_law 306 = .ok (.iload 13, 2) := by decide +kernel
theorem dL_law_308 : decode cL_law 308 = .ok (.if_icmp .eq 5, 3) := by decide +kernel
theorem dL_law_311 : decode cL_law 311 = .ok (.iconst 0, 1) := by decide +kernel
theorem dL_law_312 : decode cL_law 312 = .ok (.ireturn, 1) := by decide +kernel
theorem dL_law_313 : decode cL_law 313 = .ok (.iload 11, 2) := by decide +kernel
theorem dL_law_315 : decode cL_law 315 = .ok (.ifCond .ge 7, 3) := by decide +kernel
theorem dL_law_318 : decode cL_law 318 = .ok (.iconst 0, 1) := by decide +kernel
theorem dL_law_319 : decode cL_law 319 = .ok (.goto 11, 3) := by decide +kernel
theorem dL_law_322 : decode cL_law 322 = .ok (.bipush 24, 2) := by decide +kernel
theorem dL_law_324 : decode cL_law 324 = .ok (.bipush 8, 2) := by decide +kernel
theorem dL_law_326 : decode cL_law 326 = .ok (.iload 11, 2) := by decide +kernel
theorem dL_law_328 : decode cL_law 328 = .ok (.isub, 1) := by decide +kernel
theorem dL_law_329 : decode cL_law 329 = .ok (.imul, 1) := by decide +kernel
theorem dL_law_330 : decode cL_law 330 = .ok (.istore 14, 2) := by decide +kernel
theorem dL_law_332 : decode cL_law 332 = .ok (.aload_n 2, 1) := by decide +kernel
theorem dL_law_333 : decode cL_law 333 = .ok (.bipush 48, 2) := by decide +kernel
theorem dL_law_335 : decode cL_law 335 = .ok (.laload, 1) := by decide +kernel
theorem dL_law_336 : decode cL_law 336 = .ok (.lconst 0, 1) := by decide +kernel
theorem dL_law_337 : decode cL_law 337 = .ok (.lcmp, 1) := by decide +kernel
theorem dL_law_338 : decode cL_law 338 = .ok (.ifCond .ne 7, 3) := by decide +kernel
theorem dL_law_341 : decode cL_law 341 = .ok (.iconst (-1), 1) := by decide +kernel
theorem dL_law_342 : decode cL_law 342 = .ok (.goto 49, 3) := by decide +kernel
theorem dL_law_345 : decode cL_law 345 = .ok (.iload 12, 2) := by decide +kernel
theorem dL_law_347 : decode cL_law 347 = .ok (.iload 14, 2) := by decide +kernel
theorem dL_law_349 : decode cL_law 349 = .ok (.if_icmp .gt 22, 3) := by decide +kernel
theorem dL_law_352 : decode cL_law 352 = .ok (.iload 12, 2) := by decide +kernel
theorem dL_law_354 : decode cL_law 354 = .ok (.i2l, 1) := by decide +kernel
theorem dL_law_355 : decode cL_law 355 = .ok (.ldc2_w 136, 3) := by decide +kernel
theorem dL_law_358 : decode cL_law 358 = .ok (.aload_n 2, 1) := by decide +kernel
theorem dL_law_359 : decode cL_law 359 = .ok (.bipush 48, 2) := by decide +kernel
theorem dL_law_361 : decode cL_law 361 = .ok (.laload, 1) := by decide +kernel
theorem dL_law_362 : decode cL_law 362 = .ok (.ladd, 1) := by decide +kernel
theorem dL_law_363 : decode cL_law 363 = .ok (.lcmp, 1) := by decide +kernel
theorem dL_law_364 : decode cL_law 364 = .ok (.ifCond .gt 7, 3) := by decide +kernel
theorem dL_law_367 : decode cL_law 367 = .ok (.iconst 0, 1) := by decide +kernel
theorem dL_law_368 : decode cL_law 368 = .ok (.goto 23, 3) := by decide +kernel
theorem dL_law_371 : decode cL_law 371 = .ok (.iload 14, 2) := by decide +kernel
theorem dL_law_373 : decode cL_law 373 = .ok (.i2l, 1) := by decide +kernel
theorem dL_law_374 : decode cL_law 374 = .ok (.ldc2_w 136, 3) := by decide +kernel
theorem dL_law_377 : decode cL_law 377 = .ok (.aload_n 2, 1) := by decide +kernel
theorem dL_law_378 : decode cL_law 378 = .ok (.bipush 48, 2) := by decide +kernel
theorem dL_law_380 : decode cL_law 380 = .ok (.laload, 1) := by decide +kernel
theorem dL_law_381 : decode cL_law 381 = .ok (.ladd, 1) := by decide +kernel
theorem dL_law_382 : decode cL_law 382 = .ok (.lcmp, 1) := by decide +kernel
theorem dL_law_383 : decode cL_law 383 = .ok (.ifCond .gt 7, 3) := by decide +kernel
theorem dL_law_386 : decode cL_law 386 = .ok (.iconst 1, 1) := by decide +kernel
theorem dL_law_387 : decode cL_law 387 = .ok (.goto 4, 3) := by decide +kernel
theorem dL_law_390 : decode cL_law 390 = .ok (.iconst 2, 1) := by decide +kernel
theorem dL_law_391 : decode cL_law 391 = .ok (.istore 15, 2) := by decide +kernel
theorem dL_law_393 : decode cL_law 393 = .ok (.aload_n 1, 1) := by decide +kernel
theorem dL_law_394 : decode cL_law 394 = .ok (.iload 6, 2) := by decide +kernel
theorem dL_law_396 : decode cL_law 396 = .ok (.iload 4, 2) := by decide +kernel
theorem dL_law_398 : decode cL_law 398 = .ok (.iconst 0, 1) := by decide +kernel
theorem dL_law_399 : decode cL_law 399 = .ok (.invokevirtual 138, 3) := by decide +kernel
theorem dL_law_402 : decode cL_law 402 = .ok (.iload 15, 2) := by decide +kernel
theorem dL_law_404 : decode cL_law 404 = .ok (.if_icmp .ne 53, 3) := by decide +kernel
theorem dL_law_407 : decode cL_law 407 = .ok (.aload_n 1, 1) := by decide +kernel
theorem dL_law_408 : decode cL_law 408 = .ok (.iload 6, 2) := by decide +kernel
theorem dL_law_410 : decode cL_law 410 = .ok (.iload 4, 2) := by decide +kernel
theorem dL_law_412 : decode cL_law 412 = .ok (.iconst 1, 1) := by decide +kernel
theorem dL_law_413 : decode cL_law 413 = .ok (.invokevirtual 138, 3) := by decide +kernel
theorem dL_law_416 : decode cL_law 416 = .ok (.iload 15, 2) := by decide +kernel
theorem dL_law_418 : decode cL_law 418 = .ok (.ifCond .ge 7, 3) := by decide +kernel
theorem dL_law_421 : decode cL_law 421 = .ok (.iconst 0, 1) := by decide +kernel
theorem dL_law_422 : decode cL_law 422 = .ok (.goto 32, 3) := by decide +kernel
theorem dL_law_425 : decode cL_law 425 = .ok (.iload 15, 2) := by decide +kernel
theorem dL_law_427 : decode cL_law 427 = .ok (.ifCond .ne 8, 3) := by decide +kernel
theorem dL_law_430 : decode cL_law 430 = .ok (.iload 12, 2) := by decide +kernel
theorem dL_law_432 : decode cL_law 432 = .ok (.goto 22, 3) := by decide +kernel
theorem dL_law_435 : decode cL_law 435 = .ok (.iload 15, 2) := by decide +kernel
theorem dL_law_437 : decode cL_law 437 = .ok (.iconst 1, 1) := by decide +kernel
theorem dL_law_438 : decode cL_law 438 = .ok (.if_icmp .ne 8, 3) := by decide +kernel
theorem dL_law_441 : decode cL_law 441 = .ok (.iload 14, 2) := by decide +kernel
theorem dL_law_443 : decode cL_law 443 = .ok (.goto 11, 3) := by decide +kernel
theorem dL_law_446 : decode cL_law 446 = .ok (.bipush 50, 2) := by decide +kernel
theorem dL_law_448 : decode cL_law 448 = .ok (.aload_n 2, 1) := by decide +kernel
theorem dL_law_449 : decode cL_law 449 = .ok (.bipush 48, 2) := by decide +kernel
theorem dL_law_451 : decode cL_law 451 = .ok (.laload, 1) := by decide +kernel
theorem dL_law_452 : decode cL_law 452 = .ok (.l2i, 1) := by decide +kernel
theorem dL_law_453 : decode cL_law 453 = .ok (.iadd, 1) := by decide +kernel
theorem dL_law_454 : decode cL_law 454 = .ok (.if_icmp .eq 5, 3) := by decide +kernel
theorem dL_law_457 : decode cL_law 457 = .ok (.iconst 0, 1) := by decide +kernel
theorem dL_law_458 : decode cL_law 458 = .ok (.ireturn, 1) := by decide +kernel
theorem dL_law_459 : decode cL_law 459 = .ok (.iinc 5 1, 3) := by decide +kernel
theorem dL_law_462 : decode cL_law 462 = .ok (.goto (-419), 3) := by decide +kernel
theorem dL_law_465 : decode cL_law 465 = .ok (.aload_n 0, 1) := by decide +kernel
theorem dL_law_466 : decode cL_law 466 = .ok (.bipush 9, 2) := by decide +kernel
theorem dL_law_468 : decode cL_law 468 = .ok (.invokestatic 58, 3) := by decide +kernel
theorem dL_law_471 : decode cL_law 471 = .ok (.bipush 13, 2) := by decide +kernel
theorem dL_law_473 : decode cL_law 473 = .ok (.ishr, 1) := by decide +kernel
theorem dL_law_474 : decode cL_law 474 = .ok (.bipush 7, 2) := by decide +kernel
theorem dL_law_476 : decode cL_law 476 = .ok (.iand, 1) := by decide +kernel
theorem dL_law_477 : decode cL_law 477 = .ok (.bipush 6, 2) := by decide +kernel
theorem dL_law_479 : decode cL_law 479 = .ok (.irem, 1) := by decide +kernel
theorem dL_law_480 : decode cL_law 480 = .ok (.istore 5, 2) := by decide +kernel
theorem dL_law_482 : decode cL_law 482 = .ok (.lconst 0, 1) := by decide +kernel
theorem dL_law_483 : decode cL_law 483 = .ok (.lstore 6, 2) := by decide +kernel
theorem dL_law_485 : decode cL_law 485 = .ok (.iconst 0, 1) := by decide +kernel
theorem dL_law_486 : decode cL_law 486 = .ok (.istore 8, 2) := by decide +kernel
theorem dL_law_488 : decode cL_law 488 = .ok (.iload 8, 2) := by decide +kernel
theorem dL_law_490 : decode cL_law 490 = .ok (.bipush 8, 2) := by decide +kernel
theorem dL_law_492 : decode cL_law 492 = .ok (.if_icmp .ge 24, 3) := by decide +kernel
theorem dL_law_495 : decode cL_law 495 = .ok (.lload 6, 2) := by decide +kernel
theorem dL_law_497 : decode cL_law 497 = .ok (.lconst 1, 1) := by decide +kernel
theorem dL_law_498 : decode cL_law 498 = .ok (.bipush 6, 2) := by decide +kernel
theorem dL_law_500 : decode cL_law 500 = .ok (.iload 8, 2) := by decide +kernel
theorem dL_law_502 : decode cL_law 502 = .ok (.imul, 1) := by decide +kernel
theorem dL_law_503 : decode cL_law 503 = .ok (.iload 5, 2) := by decide +kernel
theorem dL_law_505 : decode cL_law 505 = .ok (.iadd, 1) := by decide +kernel
theorem dL_law_506 : decode cL_law 506 = .ok (.lshl, 1) := by decide +kernel
theorem dL_law_507 : decode cL_law 507 = .ok (.lor, 1) := by decide +kernel
theorem dL_law_508 : decode cL_law 508 = .ok (.lstore 6, 2) := by decide +kernel
theorem dL_law_510 : decode cL_law 510 = .ok (.iinc 8 1, 3) := by decide +kernel
theorem dL_law_513 : decode cL_law 513 = .ok (.goto (-25), 3) := by decide +kernel
theorem dL_law_516 : decode cL_law 516 = .ok (.aload_n 0, 1) := by decide +kernel
theorem dL_law_517 : decode cL_law 517 = .ok (.aload_n 2, 1) := by decide +kernel
theorem dL_law_518 : decode cL_law 518 = .ok (.lload 6, 2) := by decide +kernel
theorem dL_law_520 : decode cL_law 520 = .ok (.iload 4, 2) := by decide +kernel
theorem dL_law_522 : decode cL_law 522 = .ok (.lconst 0, 1) := by decide +kernel
theorem dL_law_523 : decode cL_law 523 = .ok (.invokestatic 123, 3) := by decide +kernel
theorem dL_law_526 : decode cL_law 526 = .ok (.iconst 0, 1) := by decide +kernel
theorem dL_law_527 : decode cL_law 527 = .ok (.istore 8, 2) := by decide +kernel
theorem dL_law_529 : decode cL_law 529 = .ok (.iconst 0, 1) := by decide +kernel
theorem dL_law_530 : decode cL_law 530 = .ok (.istore 9, 2) := by decide +kernel
theorem dL_law_532 : decode cL_law 532 = .ok (.iload 9, 2) := by decide +kernel
theorem dL_law_534 : decode cL_law 534 = .ok (.bipush 48, 2) := by decide +kernel
theorem dL_law_536 : decode cL_law 536 = .ok (.if_icmp .ge 38, 3) := by decide +kernel
theorem dL_law_539 : decode cL_law 539 = .ok (.iload 8, 2) := by decide +kernel
theorem dL_law_541 : decode cL_law 541 = .ok (.iload 9, 2) := by decide +kernel
theorem dL_law_543 : decode cL_law 543 = .ok (.bipush 6, 2) := by decide +kernel
theorem dL_law_545 : decode cL_law 545 = .ok (.irem, 1) := by decide +kernel
theorem dL_law_546 : decode cL_law 546 = .ok (.iload 5, 2) := by decide +kernel
theorem dL_law_548 : decode cL_law 548 = .ok (.if_icmp .eq 16, 3) := by decide +kernel
theorem dL_law_551 : decode cL_law 551 = .ok (.aload_n 2, 1) := by decide +kernel
theorem dL_law_552 : decode cL_law 552 = .ok (.iload 9, 2) := by decide +kernel
theorem dL_law_554 : decode cL_law 554 = .ok (.laload, 1) := by decide +kernel
theorem dL_law_555 : decode cL_law 555 = .ok (.lconst 0, 1) := by decide +kernel
theorem dL_law_556 : decode cL_law 556 = .ok (.lcmp, 1) := by decide +kernel
theorem dL_law_557 : decode cL_law 557 = .ok (.ifCond .lt 7, 3) := by decide +kernel
theorem dL_law_560 : decode cL_law 560 = .ok (.iconst 1, 1) := by decide +kernel
theorem dL_law_561 : decode cL_law 561 = .ok (.goto 4, 3) := by decide +kernel
theorem dL_law_564 : decode cL_law 564 = .ok (.iconst 0, 1) := by decide +kernel
theorem dL_law_565 : decode cL_law 565 = .ok (.iadd, 1) := by decide +kernel
theorem dL_law_566 : decode cL_law 566 = .ok (.istore 8, 2) := by decide +kernel
theorem dL_law_568 : decode cL_law 568 = .ok (.iinc 9 1, 3) := by decide +kernel
theorem dL_law_571 : decode cL_law 571 = .ok (.goto (-39), 3) := by decide +kernel
theorem dL_law_574 : decode cL_law 574 = .ok (.aload_n 1, 1) := by decide +kernel
theorem dL_law_575 : decode cL_law 575 = .ok (.iload 5, 2) := by decide +kernel
theorem dL_law_577 : decode cL_law 577 = .ok (.iload 4, 2) := by decide +kernel
theorem dL_law_579 : decode cL_law 579 = .ok (.iconst 0, 1) := by decide +kernel
theorem dL_law_580 : decode cL_law 580 = .ok (.invokevirtual 141, 3) := by decide +kernel
theorem dL_law_583 : decode cL_law 583 = .ok (.i2l, 1) := by decide +kernel
theorem dL_law_584 : decode cL_law 584 = .ok (.aload_n 2, 1) := by decide +kernel
theorem dL_law_585 : decode cL_law 585 = .ok (.bipush 48, 2) := by decide +kernel
theorem dL_law_587 : decode cL_law 587 = .ok (.laload, 1) := by decide +kernel
theorem dL_law_588 : decode cL_law 588 = .ok (.lcmp, 1) := by decide +kernel
theorem dL_law_589 : decode cL_law 589 = .ok (.ifCond .ne 17, 3) := by decide +kernel
theorem dL_law_592 : decode cL_law 592 = .ok (.aload_n 1, 1) := by decide +kernel
theorem dL_law_593 : decode cL_law 593 = .ok (.iload 5, 2) := by decide +kernel
theorem dL_law_595 : decode cL_law 595 = .ok (.iload 4, 2) := by decide +kernel
theorem dL_law_597 : decode cL_law 597 = .ok (.iconst 1, 1) := by decide +kernel
theorem dL_law_598 : decode cL_law 598 = .ok (.invokevirtual 141, 3) := by decide +kernel
theorem dL_law_601 : decode cL_law 601 = .ok (.iload 8, 2) := by decide +kernel
theorem dL_law_603 : decode cL_law 603 = .ok (.if_icmp .eq 5, 3) := by decide +kernel
theorem dL_law_606 : decode cL_law 606 = .ok (.iconst 0, 1) := by decide +kernel
theorem dL_law_607 : decode cL_law 607 = .ok (.ireturn, 1) := by decide +kernel
theorem dL_law_608 : decode cL_law 608 = .ok (.aload_n 1, 1) := by decide +kernel
theorem dL_law_609 : decode cL_law 609 = .ok (.iload_n 3, 1) := by decide +kernel
theorem dL_law_610 : decode cL_law 610 = .ok (.iload 4, 2) := by decide +kernel
theorem dL_law_612 : decode cL_law 612 = .ok (.iconst 2, 1) := by decide +kernel
theorem dL_law_613 : decode cL_law 613 = .ok (.iconst 0, 1) := by decide +kernel
theorem dL_law_614 : decode cL_law 614 = .ok (.invokevirtual 144, 3) := by decide +kernel
theorem dL_law_617 : decode cL_law 617 = .ok (.istore 9, 2) := by decide +kernel
theorem dL_law_619 : decode cL_law 619 = .ok (.iload 9, 2) := by decide +kernel
theorem dL_law_621 : decode cL_law 621 = .ok (.ifCond .le 89, 3) := by decide +kernel
theorem dL_law_624 : decode cL_law 624 = .ok (.aload_n 1, 1) := by decide +kernel
theorem dL_law_625 : decode cL_law 625 = .ok (.iload_n 3, 1) := by decide +kernel
theorem dL_law_626 : decode cL_law 626 = .ok (.iload 4, 2) := by decide +kernel
theorem dL_law_628 : decode cL_law 628 = .ok (.iconst 2, 1) := by decide +kernel
theorem dL_law_629 : decode cL_law 629 = .ok (.iconst 1, 1) := by decide +kernel
theorem dL_law_630 : decode cL_law 630 = .ok (.invokevirtual 144, 3) := by decide +kernel
theorem dL_law_633 : decode cL_law 633 = .ok (.istore 10, 2) := by decide +kernel
theorem dL_law_635 : decode cL_law 635 = .ok (.aload_n 1, 1) := by decide +kernel
theorem dL_law_636 : decode cL_law 636 = .ok (.iload_n 3, 1) := by decide +kernel
theorem dL_law_637 : decode cL_law 637 = .ok (.iload 4, 2) := by decide +kernel
theorem dL_law_639 : decode cL_law 639 = .ok (.iconst 2, 1) := by decide +kernel
theorem dL_law_640 : decode cL_law 640 = .ok (.iconst 2, 1) := by decide +kernel
theorem dL_law_641 : decode cL_law 641 = .ok (.invokevirtual 144, 3) := by decide +kernel
theorem dL_law_644 : decode cL_law 644 = .ok (.istore 11, 2) := by decide +kernel
theorem dL_law_646 : decode cL_law 646 = .ok (.aload_n 1, 1) := by decide +kernel
theorem dL_law_647 : decode cL_law 647 = .ok (.iload 10, 2) := by decide +kernel
theorem dL_law_649 : decode cL_law 649 = .ok (.iconst 1, 1) := by decide +kernel
theorem dL_law_650 : decode cL_law 650 = .ok (.invokevirtual 41, 3) := by decide +kernel
theorem dL_law_653 : decode cL_law 653 = .ok (.istore 12, 2) := by decide +kernel
theorem dL_law_655 : decode cL_law 655 = .ok (.iload 11, 2) := by decide +kernel
theorem dL_law_657 : decode cL_law 657 = .ok (.ifCond .ge 7, 3) := by decide +kernel
theorem dL_law_660 : decode cL_law 660 = .ok (.iconst 0, 1) := by decide +kernel
theorem dL_law_661 : decode cL_law 661 = .ok (.goto 10, 3) := by decide +kernel
theorem dL_law_664 : decode cL_law 664 = .ok (.aload_n 1, 1) := by decide +kernel
theorem dL_law_665 : decode cL_law 665 = .ok (.iload 11, 2) := by decide +kernel
theorem dL_law_667 : decode cL_law 667 = .ok (.iconst 1, 1) := by decide +kernel
theorem dL_law_668 : decode cL_law 668 = .ok (.invokevirtual 41, 3) := by decide +kernel
theorem dL_law_671 : decode cL_law 671 = .ok (.istore 13, 2) := by decide +kernel
theorem dL_law_673 : decode cL_law 673 = .ok (.aload_n 1, 1) := by decide +kernel
theorem dL_law_674 : decode cL_law 674 = .ok (.iload_n 3, 1) := by decide +kernel
theorem dL_law_675 : decode cL_law 675 = .ok (.iload 4, 2) := by decide +kernel
theorem dL_law_677 : decode cL_law 677 = .ok (.iconst 0, 1) := by decide +kernel
theorem dL_law_678 : decode cL_law 678 = .ok (.invokevirtual 134, 3) := by decide +kernel
theorem dL_law_681 : decode cL_law 681 = .ok (.iconst 2, 1) := by decide +kernel
theorem dL_law_682 : decode cL_law 682 = .ok (.if_icmp .le 5, 3) := by decide +kernel
theorem dL_law_685 : decode cL_law 685 = .ok (.iconst 0, 1) := by decide +kernel
theorem dL_law_686 : decode cL_law 686 = .ok (.ireturn, 1) := by decide +kernel
theorem dL_law_687 : decode cL_law 687 = .ok (.iload 11, 2) := by decide +kernel
theorem dL_law_689 : decode cL_law 689 = .ok (.ifCond .lt 12, 3) := by decide +kernel
theorem dL_law_692 : decode cL_law 692 = .ok (.aload_n 1, 1) := by decide +kernel
theorem dL_law_693 : decode cL_law 693 = .ok (.iload 11, 2) := by decide +kernel
theorem dL_law_695 : decode cL_law 695 = .ok (.iload 13, 2) := by decide +kernel
theorem dL_law_697 : decode cL_law 697 = .ok (.invokevirtual 41, 3) := by decide +kernel
theorem dL_law_700 : decode cL_law 700 = .ok (.pop, 1) := by decide +kernel
theorem dL_law_701 : decode cL_law 701 = .ok (.aload_n 1, 1) := by decide +kernel
theorem dL_law_702 : decode cL_law 702 = .ok (.iload 10, 2) := by decide +kernel
theorem dL_law_704 : decode cL_law 704 = .ok (.iload 12, 2) := by decide +kernel
theorem dL_law_706 : decode cL_law 706 = .ok (.invokevirtual 41, 3) := by decide +kernel
theorem dL_law_709 : decode cL_law 709 = .ok (.pop, 1) := by decide +kernel
theorem dL_law_710 : decode cL_law 710 = .ok (.aload_n 1, 1) := by decide +kernel
theorem dL_law_711 : decode cL_law 711 = .ok (.bipush 48, 2) := by decide +kernel
theorem dL_law_713 : decode cL_law 713 = .ok (.iconst 0, 1) := by decide +kernel
theorem dL_law_714 : decode cL_law 714 = .ok (.iconst 0, 1) := by decide +kernel
theorem dL_law_715 : decode cL_law 715 = .ok (.invokevirtual 134, 3) := by decide +kernel
theorem dL_law_718 : decode cL_law 718 = .ok (.bipush (-5), 2) := by decide +kernel
theorem dL_law_720 : decode cL_law 720 = .ok (.if_icmp .ne 164, 3) := by decide +kernel
theorem dL_law_723 : decode cL_law 723 = .ok (.aload_n 1, 1) := by decide +kernel
theorem dL_law_724 : decode cL_law 724 = .ok (.iconst 0, 1) := by decide +kernel
theorem dL_law_725 : decode cL_law 725 = .ok (.bipush 100, 2) := by decide +kernel
theorem dL_law_727 : decode cL_law 727 = .ok (.iconst 0, 1) := by decide +kernel
theorem dL_law_728 : decode cL_law 728 = .ok (.invokevirtual 134, 3) := by decide +kernel
theorem dL_law_731 : decode cL_law 731 = .ok (.bipush (-7), 2) := by decide +kernel
theorem dL_law_733 : decode cL_law 733 = .ok (.if_icmp .ne 151, 3) := by decide +kernel
theorem dL_law_736 : decode cL_law 736 = .ok (.aload_n 1, 1) := by decide +kernel
theorem dL_law_737 : decode cL_law 737 = .ok (.iconst 0, 1) := by decide +kernel
theorem dL_law_738 : decode cL_law 738 = .ok (.iconst 0, 1) := by decide +kernel
theorem dL_law_739 : decode cL_law 739 = .ok (.iconst 4, 1) := by decide +kernel
theorem dL_law_740 : decode cL_law 740 = .ok (.invokevirtual 134, 3) := by decide +kernel
theorem dL_law_743 : decode cL_law 743 = .ok (.bipush (-7), 2) := by decide +kernel
theorem dL_law_745 : decode cL_law 745 = .ok (.if_icmp .ne 139, 3) := by decide +kernel
theorem dL_law_748 : decode cL_law 748 = .ok (.aload_n 1, 1) := by decide +kernel
theorem dL_law_749 : decode cL_law 749 = .ok (.bipush 48, 2) := by decide +kernel
theorem dL_law_751 : decode cL_law 751 = .ok (.iconst 0, 1) := by decide +kernel
theorem dL_law_752 : decode cL_law 752 = .ok (.iconst 0, 1) := by decide +kernel
theorem dL_law_753 : decode cL_law 753 = .ok (.invokevirtual 130, 3) := by decide +kernel
theorem dL_law_756 : decode cL_law 756 = .ok (.ldc2_w 147, 3) := by decide +kernel
theorem dL_law_759 : decode cL_law 759 = .ok (.lcmp, 1) := by decide +kernel
theorem dL_law_760 : decode cL_law 760 = .ok (.ifCond .ne 124, 3) := by decide +kernel
theorem dL_law_763 : decode cL_law 763 = .ok (.aload_n 1, 1) := by decide +kernel
theorem dL_law_764 : decode cL_law 764 = .ok (.iconst 0, 1) := by decide +kernel
theorem dL_law_765 : decode cL_law 765 = .ok (.iconst (-1), 1) := by decide +kernel
theorem dL_law_766 : decode cL_law 766 = .ok (.iconst 0, 1) := by decide +kernel
theorem dL_law_767 : decode cL_law 767 = .ok (.invokevirtual 130, 3) := by decide +kernel
theorem dL_law_770 : decode cL_law 770 = .ok (.ldc2_w 147, 3) := by decide +kernel
theorem dL_law_773 : decode cL_law 773 = .ok (.lcmp, 1) := by decide +kernel
theorem dL_law_774 : decode cL_law 774 = .ok (.ifCond .ne 110, 3) := by decide +kernel
theorem dL_law_777 : decode cL_law 777 = .ok (.aload_n 1, 1) := by decide +kernel
theorem dL_law_778 : decode cL_law 778 = .ok (.iconst 0, 1) := by decide +kernel
theorem dL_law_779 : decode cL_law 779 = .ok (.iconst 0, 1) := by decide +kernel
theorem dL_law_780 : decode cL_law 780 = .ok (.iconst 2, 1) := by decide +kernel
theorem dL_law_781 : decode cL_law 781 = .ok (.invokevirtual 130, 3) := by decide +kernel
theorem dL_law_784 : decode cL_law 784 = .ok (.ldc2_w 147, 3) := by decide +kernel
theorem dL_law_787 : decode cL_law 787 = .ok (.lcmp, 1) := by decide +kernel
theorem dL_law_788 : decode cL_law 788 = .ok (.ifCond .ne 96, 3) := by decide +kernel
theorem dL_law_791 : decode cL_law 791 = .ok (.aload_n 1, 1) := by decide +kernel
theorem dL_law_792 : decode cL_law 792 = .ok (.iconst 0, 1) := by decide +kernel
theorem dL_law_793 : decode cL_law 793 = .ok (.iconst 0, 1) := by decide +kernel
theorem dL_law_794 : decode cL_law 794 = .ok (.bipush 48, 2) := by decide +kernel
theorem dL_law_796 : decode cL_law 796 = .ok (.invokevirtual 127, 3) := by decide +kernel
theorem dL_law_799 : decode cL_law 799 = .ok (.bipush (-5), 2) := by decide +kernel
theorem dL_law_801 : decode cL_law 801 = .ok (.if_icmp .ne 83, 3) := by decide +kernel
theorem dL_law_804 : decode cL_law 804 = .ok (.aload_n 1, 1) := by decide +kernel
theorem dL_law_805 : decode cL_law 805 = .ok (.iconst 0, 1) := by decide +kernel
theorem dL_law_806 : decode cL_law 806 = .ok (.bipush 100, 2) := by decide +kernel
theorem dL_law_808 : decode cL_law 808 = .ok (.iconst 0, 1) := by decide +kernel
theorem dL_law_809 : decode cL_law 809 = .ok (.invokevirtual 127, 3) := by decide +kernel
theorem dL_law_812 : decode cL_law 812 = .ok (.bipush (-7), 2) := by decide +kernel
theorem dL_law_814 : decode cL_law 814 = .ok (.if_icmp .ne 70, 3) := by decide +kernel
theorem dL_law_817 : decode cL_law 817 = .ok (.aload_n 1, 1) := by decide +kernel
theorem dL_law_818 : decode cL_law 818 = .ok (.bipush 6, 2) := by decide +kernel
theorem dL_law_820 : decode cL_law 820 = .ok (.iconst 0, 1) := by decide +kernel
theorem dL_law_821 : decode cL_law 821 = .ok (.iconst 0, 1) := by decide +kernel
theorem dL_law_822 : decode cL_law 822 = .ok (.invokevirtual 141, 3) := by decide +kernel
theorem dL_law_825 : decode cL_law 825 = .ok (.bipush (-5), 2) := by decide +kernel
theorem dL_law_827 : decode cL_law 827 = .ok (.if_icmp .ne 57, 3) := by decide +kernel
theorem dL_law_830 : decode cL_law 830 = .ok (.aload_n 1, 1) := by decide +kernel
theorem dL_law_831 : decode cL_law 831 = .ok (.iconst 0, 1) := by decide +kernel
theorem dL_law_832 : decode cL_law 832 = .ok (.bipush 100, 2) := by decide +kernel
theorem dL_law_834 : decode cL_law 834 = .ok (.iconst 0, 1) := by decide +kernel
theorem dL_law_835 : decode cL_law 835 = .ok (.invokevirtual 141, 3) := by decide +kernel
theorem dL_law_838 : decode cL_law 838 = .ok (.bipush (-7), 2) := by decide +kernel
theorem dL_law_840 : decode cL_law 840 = .ok (.if_icmp .ne 44, 3) := by decide +kernel
theorem dL_law_843 : decode cL_law 843 = .ok (.aload_n 1, 1) := by decide +kernel
theorem dL_law_844 : decode cL_law 844 = .ok (.iconst 0, 1) := by decide +kernel
theorem dL_law_845 : decode cL_law 845 = .ok (.iconst 0, 1) := by decide +kernel
theorem dL_law_846 : decode cL_law 846 = .ok (.iconst 2, 1) := by decide +kernel
theorem dL_law_847 : decode cL_law 847 = .ok (.invokevirtual 141, 3) := by decide +kernel
theorem dL_law_850 : decode cL_law 850 = .ok (.bipush (-7), 2) := by decide +kernel
theorem dL_law_852 : decode cL_law 852 = .ok (.if_icmp .ne 32, 3) := by decide +kernel
theorem dL_law_855 : decode cL_law 855 = .ok (.aload_n 1, 1) := by decide +kernel
theorem dL_law_856 : decode cL_law 856 = .ok (.bipush 48, 2) := by decide +kernel
theorem dL_law_858 : decode cL_law 858 = .ok (.iconst 0, 1) := by decide +kernel
theorem dL_law_859 : decode cL_law 859 = .ok (.iconst 0, 1) := by decide +kernel
theorem dL_law_860 : decode cL_law 860 = .ok (.invokevirtual 138, 3) := by decide +kernel
theorem dL_law_863 : decode cL_law 863 = .ok (.bipush (-5), 2) := by decide +kernel
theorem dL_law_865 : decode cL_law 865 = .ok (.if_icmp .ne 19, 3) := by decide +kernel
theorem dL_law_868 : decode cL_law 868 = .ok (.aload_n 1, 1) := by decide +kernel
theorem dL_law_869 : decode cL_law 869 = .ok (.iconst 0, 1) := by decide +kernel
theorem dL_law_870 : decode cL_law 870 = .ok (.iconst 0, 1) := by decide +kernel
theorem dL_law_871 : decode cL_law 871 = .ok (.iconst 2, 1) := by decide +kernel
theorem dL_law_872 : decode cL_law 872 = .ok (.invokevirtual 138, 3) := by decide +kernel
theorem dL_law_875 : decode cL_law 875 = .ok (.bipush (-7), 2) := by decide +kernel
theorem dL_law_877 : decode cL_law 877 = .ok (.if_icmp .ne 7, 3) := by decide +kernel
theorem dL_law_880 : decode cL_law 880 = .ok (.iconst 1, 1) := by decide +kernel
theorem dL_law_881 : decode cL_law 881 = .ok (.goto 4, 3) := by decide +kernel
theorem dL_law_884 : decode cL_law 884 = .ok (.iconst 0, 1) := by decide +kernel
theorem dL_law_885 : decode cL_law 885 = .ok (.ireturn, 1) := by decide +kernel
