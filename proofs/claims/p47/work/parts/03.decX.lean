theorem dX0_init_0 : decode cX0_init 0 = .ok (.aload_n 0, 1) := by decide +kernel
theorem dX0_init_1 : decode cX0_init 1 = .ok (.invokespecial 3, 3) := by decide +kernel
theorem dX0_init_4 : decode cX0_init 4 = .ok (.aload_n 0, 1) := by decide +kernel
theorem dX0_init_5 : decode cX0_init 5 = .ok (.bipush 48, 2) := by decide +kernel
theorem dX0_init_7 : decode cX0_init 7 = .ok (.newarray .int, 2) := by decide +kernel
theorem dX0_init_9 : decode cX0_init 9 = .ok (.putfield 9, 3) := by decide +kernel
theorem dX0_init_12 : decode cX0_init 12 = .ok (.return_, 1) := by decide +kernel
theorem dX0_runFrom_0 : decode cX0_runFrom 0 = .ok (.aload_n 0, 1) := by decide +kernel
theorem dX0_runFrom_1 : decode cX0_runFrom 1 = .ok (.lconst 0, 1) := by decide +kernel
theorem dX0_runFrom_2 : decode cX0_runFrom 2 = .ok (.putfield 15, 3) := by decide +kernel
theorem dX0_runFrom_5 : decode cX0_runFrom 5 = .ok (.aload_n 0, 1) := by decide +kernel
theorem dX0_runFrom_6 : decode cX0_runFrom 6 = .ok (.lconst 0, 1) := by decide +kernel
theorem dX0_runFrom_7 : decode cX0_runFrom 7 = .ok (.putfield 19, 3) := by decide +kernel
theorem dX0_runFrom_10 : decode cX0_runFrom 10 = .ok (.bipush 47, 2) := by decide +kernel
theorem dX0_runFrom_12 : decode cX0_runFrom 12 = .ok (.istore 8, 2) := by decide +kernel
theorem dX0_runFrom_14 : decode cX0_runFrom 14 = .ok (.iload 8, 2) := by decide +kernel
theorem dX0_runFrom_16 : decode cX0_runFrom 16 = .ok (.ifCond .lt 162, 3) := by decide +kernel
theorem dX0_runFrom_19 : decode cX0_runFrom 19 = .ok (.aload_n 0, 1) := by decide +kernel
theorem dX0_runFrom_20 : decode cX0_runFrom 20 = .ok (.getfield 15, 3) := by decide +kernel
theorem dX0_runFrom_23 : decode cX0_runFrom 23 = .ok (.lconst 0, 1) := by decide +kernel
theorem dX0_runFrom_24 : decode cX0_runFrom 24 = .ok (.lcmp, 1) := by decide +kernel
theorem dX0_runFrom_25 : decode cX0_runFrom 25 = .ok (.ifCond .ne 7, 3) := by decide +kernel
theorem dX0_runFrom_28 : decode cX0_runFrom 28 = .ok (.lconst 0, 1) := by decide +kernel
theorem dX0_runFrom_29 : decode cX0_runFrom 29 = .ok (.goto 9, 3) := by decide +kernel
theorem dX0_runFrom_32 : decode cX0_runFrom 32 = .ok (.aload_n 1, 1) := by decide +kernel
theorem dX0_runFrom_33 : decode cX0_runFrom 33 = .ok (.iload 8, 2) := by decide +kernel
theorem dX0_runFrom_35 : decode cX0_runFrom 35 = .ok (.invokevirtual 22, 3) := by decide +kernel
theorem dX0_runFrom_38 : decode cX0_runFrom 38 = .ok (.lstore 9, 2) := by decide +kernel
theorem dX0_runFrom_40 : decode cX0_runFrom 40 = .ok (.lload 9, 2) := by decide +kernel
theorem dX0_runFrom_42 : decode cX0_runFrom 42 = .ok (.lconst 0, 1) := by decide +kernel
theorem dX0_runFrom_43 : decode cX0_runFrom 43 = .ok (.lcmp, 1) := by decide +kernel
theorem dX0_runFrom_44 : decode cX0_runFrom 44 = .ok (.ifCond .eq 20, 3) := by decide +kernel
theorem dX0_runFrom_47 : decode cX0_runFrom 47 = .ok (.lload 9, 2) := by decide +kernel
theorem dX0_runFrom_49 : decode cX0_runFrom 49 = .ok (.aload_n 0, 1) := by decide +kernel
theorem dX0_runFrom_50 : decode cX0_runFrom 50 = .ok (.getfield 15, 3) := by decide +kernel
theorem dX0_runFrom_53 : decode cX0_runFrom 53 = .ok (.land, 1) := by decide +kernel
theorem dX0_runFrom_54 : decode cX0_runFrom 54 = .ok (.lload 9, 2) := by decide +kernel
theorem dX0_runFrom_56 : decode cX0_runFrom 56 = .ok (.lcmp, 1) := by decide +kernel
theorem dX0_runFrom_57 : decode cX0_runFrom 57 = .ok (.ifCond .ne 7, 3) := by decide +kernel
theorem dX0_runFrom_60 : decode cX0_runFrom 60 = .ok (.iconst 1, 1) := by decide +kernel
theorem dX0_runFrom_61 : decode cX0_runFrom 61 = .ok (.goto 4, 3) := by decide +kernel
theorem dX0_runFrom_64 : decode cX0_runFrom 64 = .ok (.iconst 0, 1) := by decide +kernel
theorem dX0_runFrom_65 : decode cX0_runFrom 65 = .ok (.istore 11, 2) := by decide +kernel
theorem dX0_runFrom_67 : decode cX0_runFrom 67 = .ok (.iconst (-1), 1) := by decide +kernel
theorem dX0_runFrom_68 : decode cX0_runFrom 68 = .ok (.istore 12, 2) := by decide +kernel
theorem dX0_runFrom_70 : decode cX0_runFrom 70 = .ok (.lload 5, 2) := by decide +kernel
theorem dX0_runFrom_72 : decode cX0_runFrom 72 = .ok (.iload 8, 2) := by decide +kernel
theorem dX0_runFrom_74 : decode cX0_runFrom 74 = .ok (.invokestatic 28, 3) := by decide +kernel
theorem dX0_runFrom_77 : decode cX0_runFrom 77 = .ok (.ifCond .ne 45, 3) := by decide +kernel
theorem dX0_runFrom_80 : decode cX0_runFrom 80 = .ok (.aload_n 1, 1) := by decide +kernel
theorem dX0_runFrom_81 : decode cX0_runFrom 81 = .ok (.iload 8, 2) := by decide +kernel
theorem dX0_runFrom_83 : decode cX0_runFrom 83 = .ok (.invokevirtual 32, 3) := by decide +kernel
theorem dX0_runFrom_86 : decode cX0_runFrom 86 = .ok (.ifCond .ne 36, 3) := by decide +kernel
theorem dX0_runFrom_89 : decode cX0_runFrom 89 = .ok (.lload_n 3, 1) := by decide +kernel
theorem dX0_runFrom_90 : decode cX0_runFrom 90 = .ok (.iload 8, 2) := by decide +kernel
theorem dX0_runFrom_92 : decode cX0_runFrom 92 = .ok (.invokestatic 28, 3) := by decide +kernel
theorem dX0_runFrom_95 : decode cX0_runFrom 95 = .ok (.ifCond .eq 10, 3) := by decide +kernel
theorem dX0_runFrom_98 : decode cX0_runFrom 98 = .ok (.iload 7, 2) := by decide +kernel
theorem dX0_runFrom_100 : decode cX0_runFrom 100 = .ok (.istore 12, 2) := by decide +kernel
theorem dX0_runFrom_102 : decode cX0_runFrom 102 = .ok (.goto 20, 3) := by decide +kernel
theorem dX0_runFrom_105 : decode cX0_runFrom 105 = .ok (.iload 11, 2) := by decide +kernel
theorem dX0_runFrom_107 : decode cX0_runFrom 107 = .ok (.ifCond .eq 15, 3) := by decide +kernel
theorem dX0_runFrom_110 : decode cX0_runFrom 110 = .ok (.aload_n 0, 1) := by decide +kernel
theorem dX0_runFrom_111 : decode cX0_runFrom 111 = .ok (.aload_n 1, 1) := by decide +kernel
theorem dX0_runFrom_112 : decode cX0_runFrom 112 = .ok (.aload_n 2, 1) := by decide +kernel
theorem dX0_runFrom_113 : decode cX0_runFrom 113 = .ok (.iload 8, 2) := by decide +kernel
theorem dX0_runFrom_115 : decode cX0_runFrom 115 = .ok (.lload 9, 2) := by decide +kernel
theorem dX0_runFrom_117 : decode cX0_runFrom 117 = .ok (.invokevirtual 36, 3) := by decide +kernel
theorem dX0_runFrom_120 : decode cX0_runFrom 120 = .ok (.istore 12, 2) := by decide +kernel
theorem dX0_runFrom_122 : decode cX0_runFrom 122 = .ok (.aload_n 0, 1) := by decide +kernel
theorem dX0_runFrom_123 : decode cX0_runFrom 123 = .ok (.getfield 9, 3) := by decide +kernel
theorem dX0_runFrom_126 : decode cX0_runFrom 126 = .ok (.iload 8, 2) := by decide +kernel
theorem dX0_runFrom_128 : decode cX0_runFrom 128 = .ok (.iload 12, 2) := by decide +kernel
theorem dX0_runFrom_130 : decode cX0_runFrom 130 = .ok (.iastore, 1) := by decide +kernel
theorem dX0_runFrom_131 : decode cX0_runFrom 131 = .ok (.iload 12, 2) := by decide +kernel
theorem dX0_runFrom_133 : decode cX0_runFrom 133 = .ok (.ifCond .lt 20, 3) := by decide +kernel
theorem dX0_runFrom_136 : decode cX0_runFrom 136 = .ok (.aload_n 0, 1) := by decide +kernel
theorem dX0_runFrom_137 : decode cX0_runFrom 137 = .ok (.dup, 1) := by decide +kernel
theorem dX0_runFrom_138 : decode cX0_runFrom 138 = .ok (.getfield 15, 3) := by decide +kernel
theorem dX0_runFrom_141 : decode cX0_runFrom 141 = .ok (.iload 8, 2) := by decide +kernel
theorem dX0_runFrom_143 : decode cX0_runFrom 143 = .ok (.invokestatic 40, 3) := by decide +kernel
theorem dX0_runFrom_146 : decode cX0_runFrom 146 = .ok (.lor, 1) := by decide +kernel
theorem dX0_runFrom_147 : decode cX0_runFrom 147 = .ok (.putfield 15, 3) := by decide +kernel
theorem dX0_runFrom_150 : decode cX0_runFrom 150 = .ok (.goto 22, 3) := by decide +kernel
theorem dX0_runFrom_153 : decode cX0_runFrom 153 = .ok (.iload 11, 2) := by decide +kernel
theorem dX0_runFrom_155 : decode cX0_runFrom 155 = .ok (.ifCond .eq 17, 3) := by decide +kernel
theorem dX0_runFrom_158 : decode cX0_runFrom 158 = .ok (.aload_n 0, 1) := by decide +kernel
theorem dX0_runFrom_159 : decode cX0_runFrom 159 = .ok (.dup, 1) := by decide +kernel
theorem dX0_runFrom_160 : decode cX0_runFrom 160 = .ok (.getfield 19, 3) := by decide +kernel
theorem dX0_runFrom_163 : decode cX0_runFrom 163 = .ok (.iload 8, 2) := by decide +kernel
theorem dX0_runFrom_165 : decode cX0_runFrom 165 = .ok (.invokestatic 40, 3) := by decide +kernel
theorem dX0_runFrom_168 : decode cX0_runFrom 168 = .ok (.lor, 1) := by decide +kernel
theorem dX0_runFrom_169 : decode cX0_runFrom 169 = .ok (.putfield 19, 3) := by decide +kernel
theorem dX0_runFrom_172 : decode cX0_runFrom 172 = .ok (.iinc 8 (-1), 3) := by decide +kernel
theorem dX0_runFrom_175 : decode cX0_runFrom 175 = .ok (.goto (-161), 3) := by decide +kernel
theorem dX0_runFrom_178 : decode cX0_runFrom 178 = .ok (.aload_n 0, 1) := by decide +kernel
theorem dX0_runFrom_179 : decode cX0_runFrom 179 = .ok (.getfield 15, 3) := by decide +kernel
theorem dX0_runFrom_182 : decode cX0_runFrom 182 = .ok (.invokestatic 43, 3) := by decide +kernel
theorem dX0_runFrom_185 : decode cX0_runFrom 185 = .ok (.ireturn, 1) := by decide +kernel
theorem dX0_restOf_0 : decode cX0_restOf 0 = .ok (.iconst 0, 1) := by decide +kernel
theorem dX0_restOf_1 : decode cX0_restOf 1 = .ok (.istore 6, 2) := by decide +kernel
theorem dX0_restOf_3 : decode cX0_restOf 3 = .ok (.iload_n 3, 1) := by decide +kernel
theorem dX0_restOf_4 : decode cX0_restOf 4 = .ok (.bipush 6, 2) := by decide +kernel
theorem dX0_restOf_6 : decode cX0_restOf 6 = .ok (.iadd, 1) := by decide +kernel
theorem dX0_restOf_7 : decode cX0_restOf 7 = .ok (.iconst 1, 1) := by decide +kernel
theorem dX0_restOf_8 : decode cX0_restOf 8 = .ok (.isub, 1) := by decide +kernel
theorem dX0_restOf_9 : decode cX0_restOf 9 = .ok (.istore 7, 2) := by decide +kernel
theorem dX0_restOf_11 : decode cX0_restOf 11 = .ok (.iload 7, 2) := by decide +kernel
theorem dX0_restOf_13 : decode cX0_restOf 13 = .ok (.bipush 48, 2) := by decide +kernel
theorem dX0_restOf_15 : decode cX0_restOf 15 = .ok (.if_icmp .ge 44, 3) := by decide +kernel
theorem dX0_restOf_18 : decode cX0_restOf 18 = .ok (.iload 7, 2) := by decide +kernel
theorem dX0_restOf_20 : decode cX0_restOf 20 = .ok (.iload_n 3, 1) := by decide +kernel
theorem dX0_restOf_21 : decode cX0_restOf 21 = .ok (.bipush 6, 2) := by decide +kernel
theorem dX0_restOf_23 : decode cX0_restOf 23 = .ok (.iadd, 1) := by decide +kernel
theorem dX0_restOf_24 : decode cX0_restOf 24 = .ok (.iconst 1, 1) := by decide +kernel
theorem dX0_restOf_25 : decode cX0_restOf 25 = .ok (.iadd, 1) := by decide +kernel
theorem dX0_restOf_26 : decode cX0_restOf 26 = .ok (.if_icmp .gt 33, 3) := by decide +kernel
theorem dX0_restOf_29 : decode cX0_restOf 29 = .ok (.lload 4, 2) := by decide +kernel
theorem dX0_restOf_31 : decode cX0_restOf 31 = .ok (.iload 7, 2) := by decide +kernel
theorem dX0_restOf_33 : decode cX0_restOf 33 = .ok (.invokestatic 28, 3) := by decide +kernel
theorem dX0_restOf_36 : decode cX0_restOf 36 = .ok (.ifCond .eq 17, 3) := by decide +kernel
theorem dX0_restOf_39 : decode cX0_restOf 39 = .ok (.iload 6, 2) := by decide +kernel
theorem dX0_restOf_41 : decode cX0_restOf 41 = .ok (.aload_n 0, 1) := by decide +kernel
theorem dX0_restOf_42 : decode cX0_restOf 42 = .ok (.getfield 9, 3) := by decide +kernel
theorem dX0_restOf_45 : decode cX0_restOf 45 = .ok (.iload 7, 2) := by decide +kernel
theorem dX0_restOf_47 : decode cX0_restOf 47 = .ok (.iaload, 1) := by decide +kernel
theorem dX0_restOf_48 : decode cX0_restOf 48 = .ok (.invokestatic 49, 3) := by decide +kernel
theorem dX0_restOf_51 : decode cX0_restOf 51 = .ok (.istore 6, 2) := by decide +kernel
theorem dX0_restOf_53 : decode cX0_restOf 53 = .ok (.iinc 7 1, 3) := by decide +kernel
theorem dX0_restOf_56 : decode cX0_restOf 56 = .ok (.goto (-45), 3) := by decide +kernel
theorem dX0_restOf_59 : decode cX0_restOf 59 = .ok (.aload_n 2, 1) := by decide +kernel
theorem dX0_restOf_60 : decode cX0_restOf 60 = .ok (.iconst 0, 1) := by decide +kernel
theorem dX0_restOf_61 : decode cX0_restOf 61 = .ok (.aload_n 1, 1) := by decide +kernel
theorem dX0_restOf_62 : decode cX0_restOf 62 = .ok (.iload_n 3, 1) := by decide +kernel
theorem dX0_restOf_63 : decode cX0_restOf 63 = .ok (.iload 6, 2) := by decide +kernel
theorem dX0_restOf_65 : decode cX0_restOf 65 = .ok (.invokevirtual 55, 3) := by decide +kernel
theorem dX0_restOf_68 : decode cX0_restOf 68 = .ok (.istore 7, 2) := by decide +kernel
theorem dX0_restOf_70 : decode cX0_restOf 70 = .ok (.aload_n 1, 1) := by decide +kernel
theorem dX0_restOf_71 : decode cX0_restOf 71 = .ok (.getfield 61, 3) := by decide +kernel
theorem dX0_restOf_74 : decode cX0_restOf 74 = .ok (.iload_n 3, 1) := by decide +kernel
theorem dX0_restOf_75 : decode cX0_restOf 75 = .ok (.iaload, 1) := by decide +kernel
theorem dX0_restOf_76 : decode cX0_restOf 76 = .ok (.iload 7, 2) := by decide +kernel
theorem dX0_restOf_78 : decode cX0_restOf 78 = .ok (.aload_n 1, 1) := by decide +kernel
theorem dX0_restOf_79 : decode cX0_restOf 79 = .ok (.getfield 64, 3) := by decide +kernel
theorem dX0_restOf_82 : decode cX0_restOf 82 = .ok (.iload_n 3, 1) := by decide +kernel
theorem dX0_restOf_83 : decode cX0_restOf 83 = .ok (.iaload, 1) := by decide +kernel
theorem dX0_restOf_84 : decode cX0_restOf 84 = .ok (.invokestatic 67, 3) := by decide +kernel
theorem dX0_restOf_87 : decode cX0_restOf 87 = .ok (.sipush 999, 3) := by decide +kernel
theorem dX0_restOf_90 : decode cX0_restOf 90 = .ok (.invokestatic 71, 3) := by decide +kernel
theorem dX0_restOf_93 : decode cX0_restOf 93 = .ok (.istore 8, 2) := by decide +kernel
theorem dX0_restOf_95 : decode cX0_restOf 95 = .ok (.iload 6, 2) := by decide +kernel
theorem dX0_restOf_97 : decode cX0_restOf 97 = .ok (.iload 8, 2) := by decide +kernel
theorem dX0_restOf_99 : decode cX0_restOf 99 = .ok (.if_icmp .le 11, 3) := by decide +kernel
theorem dX0_restOf_102 : decode cX0_restOf 102 = .ok (.iload 6, 2) := by decide +kernel
theorem dX0_restOf_104 : decode cX0_restOf 104 = .ok (.iload 8, 2) := by decide +kernel
theorem dX0_restOf_106 : decode cX0_restOf 106 = .ok (.isub, 1) := by decide +kernel
theorem dX0_restOf_107 : decode cX0_restOf 107 = .ok (.goto 4, 3) := by decide +kernel
theorem dX0_restOf_110 : decode cX0_restOf 110 = .ok (.iconst (-1), 1) := by decide +kernel
theorem dX0_restOf_111 : decode cX0_restOf 111 = .ok (.ireturn, 1) := by decide +kernel
theorem dX1_init_0 : decode cX1_init 0 = .ok (.aload_n 0, 1) := by decide +kernel
theorem dX1_init_1 : decode cX1_init 1 = .ok (.invokespecial 3, 3) := by decide +kernel
theorem dX1_init_4 : decode cX1_init 4 = .ok (.aload_n 0, 1) := by decide +kernel
theorem dX1_init_5 : decode cX1_init 5 = .ok (.bipush 48, 2) := by decide +kernel
theorem dX1_init_7 : decode cX1_init 7 = .ok (.newarray .int, 2) := by decide +kernel
theorem dX1_init_9 : decode cX1_init 9 = .ok (.putfield 9, 3) := by decide +kernel
theorem dX1_init_12 : decode cX1_init 12 = .ok (.aload_n 0, 1) := by decide +kernel
theorem dX1_init_13 : decode cX1_init 13 = .ok (.bipush 48, 2) := by decide +kernel
theorem dX1_init_15 : decode cX1_init 15 = .ok (.newarray .int, 2) := by decide +kernel
theorem dX1_init_17 : decode cX1_init 17 = .ok (.putfield 15, 3) := by decide +kernel
theorem dX1_init_20 : decode cX1_init 20 = .ok (.return_, 1) := by decide +kernel
theorem dX1_become_0 : decode cX1_become 0 = .ok (.aload_n 0, 1) := by decide +kernel
theorem dX1_become_1 : decode cX1_become 1 = .ok (.getfield 9, 3) := by decide +kernel
theorem dX1_become_4 : decode cX1_become 4 = .ok (.iload_n 1, 1) := by decide +kernel
theorem dX1_become_5 : decode cX1_become 5 = .ok (.iload_n 2, 1) := by decide +kernel
theorem dX1_become_6 : decode cX1_become 6 = .ok (.iastore, 1) := by decide +kernel
theorem dX1_become_7 : decode cX1_become 7 = .ok (.aload_n 0, 1) := by decide +kernel
theorem dX1_become_8 : decode cX1_become 8 = .ok (.getfield 15, 3) := by decide +kernel
theorem dX1_become_11 : decode cX1_become 11 = .ok (.iload_n 1, 1) := by decide +kernel
theorem dX1_become_12 : decode cX1_become 12 = .ok (.iload_n 3, 1) := by decide +kernel
theorem dX1_become_13 : decode cX1_become 13 = .ok (.iastore, 1) := by decide +kernel
theorem dX1_become_14 : decode cX1_become 14 = .ok (.return_, 1) := by decide +kernel
theorem dX1_keeps_0 : decode cX1_keeps 0 = .ok (.aload_n 0, 1) := by decide +kernel
theorem dX1_keeps_1 : decode cX1_keeps 1 = .ok (.getfield 9, 3) := by decide +kernel
theorem dX1_keeps_4 : decode cX1_keeps 4 = .ok (.iload_n 1, 1) := by decide +kernel
theorem dX1_keeps_5 : decode cX1_keeps 5 = .ok (.iaload, 1) := by decide +kernel
theorem dX1_keeps_6 : decode cX1_keeps 6 = .ok (.iconst 5, 1) := by decide +kernel
theorem dX1_keeps_7 : decode cX1_keeps 7 = .ok (.if_icmp .eq 14, 3) := by decide +kernel
theorem dX1_keeps_10 : decode cX1_keeps 10 = .ok (.aload_n 0, 1) := by decide +kernel
theorem dX1_keeps_11 : decode cX1_keeps 11 = .ok (.getfield 24, 3) := by decide +kernel
theorem dX1_keeps_14 : decode cX1_keeps 14 = .ok (.iload_n 1, 1) := by decide +kernel
theorem dX1_keeps_15 : decode cX1_keeps 15 = .ok (.invokestatic 35, 3) := by decide +kernel
theorem dX1_keeps_18 : decode cX1_keeps 18 = .ok (.ifCond .eq 7, 3) := by decide +kernel
theorem dX1_keeps_21 : decode cX1_keeps 21 = .ok (.iconst 1, 1) := by decide +kernel
theorem dX1_keeps_22 : decode cX1_keeps 22 = .ok (.goto 4, 3) := by decide +kernel
theorem dX1_keeps_25 : decode cX1_keeps 25 = .ok (.iconst 0, 1) := by decide +kernel
theorem dX1_keeps_26 : decode cX1_keeps 26 = .ok (.ireturn, 1) := by decide +kernel
theorem dX1_over_0 : decode cX1_over 0 = .ok (.iload_n 1, 1) := by decide +kernel
theorem dX1_over_1 : decode cX1_over 1 = .ok (.bipush 6, 2) := by decide +kernel
theorem dX1_over_3 : decode cX1_over 3 = .ok (.iadd, 1) := by decide +kernel
theorem dX1_over_4 : decode cX1_over 4 = .ok (.istore_n 2, 1) := by decide +kernel
theorem dX1_over_5 : decode cX1_over 5 = .ok (.iload_n 2, 1) := by decide +kernel
theorem dX1_over_6 : decode cX1_over 6 = .ok (.bipush 48, 2) := by decide +kernel
theorem dX1_over_8 : decode cX1_over 8 = .ok (.if_icmp .lt 5, 3) := by decide +kernel
theorem dX1_over_11 : decode cX1_over 11 = .ok (.lconst 0, 1) := by decide +kernel
theorem dX1_over_12 : decode cX1_over 12 = .ok (.lreturn, 1) := by decide +kernel
theorem dX1_over_13 : decode cX1_over 13 = .ok (.iload_n 2, 1) := by decide +kernel
theorem dX1_over_14 : decode cX1_over 14 = .ok (.iconst 1, 1) := by decide +kernel
theorem dX1_over_15 : decode cX1_over 15 = .ok (.ixor, 1) := by decide +kernel
theorem dX1_over_16 : decode cX1_over 16 = .ok (.istore_n 3, 1) := by decide +kernel
theorem dX1_over_17 : decode cX1_over 17 = .ok (.aload_n 0, 1) := by decide +kernel
theorem dX1_over_18 : decode cX1_over 18 = .ok (.getfield 9, 3) := by decide +kernel
theorem dX1_over_21 : decode cX1_over 21 = .ok (.iload_n 2, 1) := by decide +kernel
theorem dX1_over_22 : decode cX1_over 22 = .ok (.iaload, 1) := by decide +kernel
theorem dX1_over_23 : decode cX1_over 23 = .ok (.invokestatic 39, 3) := by decide +kernel
theorem dX1_over_26 : decode cX1_over 26 = .ok (.ifCond .eq 10, 3) := by decide +kernel
theorem dX1_over_29 : decode cX1_over 29 = .ok (.iload_n 2, 1) := by decide +kernel
theorem dX1_over_30 : decode cX1_over 30 = .ok (.invokestatic 50, 3) := by decide +kernel
theorem dX1_over_33 : decode cX1_over 33 = .ok (.goto 4, 3) := by decide +kernel
theorem dX1_over_36 : decode cX1_over 36 = .ok (.lconst 0, 1) := by decide +kernel
theorem dX1_over_37 : decode cX1_over 37 = .ok (.lstore 4, 2) := by decide +kernel
theorem dX1_over_39 : decode cX1_over 39 = .ok (.aload_n 0, 1) := by decide +kernel
theorem dX1_over_40 : decode cX1_over 40 = .ok (.getfield 9, 3) := by decide +kernel
theorem dX1_over_43 : decode cX1_over 43 = .ok (.iload_n 3, 1) := by decide +kernel
theorem dX1_over_44 : decode cX1_over 44 = .ok (.iaload, 1) := by decide +kernel
theorem dX1_over_45 : decode cX1_over 45 = .ok (.invokestatic 43, 3) := by decide +kernel
theorem dX1_over_48 : decode cX1_over 48 = .ok (.ifCond .eq 13, 3) := by decide +kernel
theorem dX1_over_51 : decode cX1_over 51 = .ok (.lload 4, 2) := by decide +kernel
theorem dX1_over_53 : decode cX1_over 53 = .ok (.iload_n 3, 1) := by decide +kernel
theorem dX1_over_54 : decode cX1_over 54 = .ok (.invokestatic 50, 3) := by decide +kernel
theorem dX1_over_57 : decode cX1_over 57 = .ok (.lor, 1) := by decide +kernel
theorem dX1_over_58 : decode cX1_over 58 = .ok (.goto 5, 3) := by decide +kernel
theorem dX1_over_61 : decode cX1_over 61 = .ok (.lload 4, 2) := by decide +kernel
theorem dX1_over_63 : decode cX1_over 63 = .ok (.lreturn, 1) := by decide +kernel
theorem dX2_init_0 : decode cX2_init 0 = .ok (.aload_n 0, 1) := by decide +kernel
theorem dX2_init_1 : decode cX2_init 1 = .ok (.invokespecial 3, 3) := by decide +kernel
theorem dX2_init_4 : decode cX2_init 4 = .ok (.aload_n 0, 1) := by decide +kernel
theorem dX2_init_5 : decode cX2_init 5 = .ok (.bipush 48, 2) := by decide +kernel
theorem dX2_init_7 : decode cX2_init 7 = .ok (.newarray .int, 2) := by decide +kernel
theorem dX2_init_9 : decode cX2_init 9 = .ok (.putfield 9, 3) := by decide +kernel
theorem dX2_init_12 : decode cX2_init 12 = .ok (.aload_n 0, 1) := by decide +kernel
theorem dX2_init_13 : decode cX2_init 13 = .ok (.iconst (-1), 1) := by decide +kernel
theorem dX2_init_14 : decode cX2_init 14 = .ok (.putfield 15, 3) := by decide +kernel
theorem dX2_init_17 : decode cX2_init 17 = .ok (.return_, 1) := by decide +kernel
theorem dX3_init_0 : decode cX3_init 0 = .ok (.aload_n 0, 1) := by decide +kernel
theorem dX3_init_1 : decode cX3_init 1 = .ok (.invokespecial 3, 3) := by decide +kernel
theorem dX3_init_4 : decode cX3_init 4 = .ok (.aload_n 0, 1) := by decide +kernel
theorem dX3_init_5 : decode cX3_init 5 = .ok (.sipush 160, 3) := by decide +kernel
theorem dX3_init_8 : decode cX3_init 8 = .ok (.newarray .int, 2) := by decide +kernel
theorem dX3_init_10 : decode cX3_init 10 = .ok (.putfield 9, 3) := by decide +kernel
theorem dX3_init_13 : decode cX3_init 13 = .ok (.return_, 1) := by decide +kernel
theorem dX3_add_0 : decode cX3_add 0 = .ok (.aload_n 0, 1) := by decide +kernel
theorem dX3_add_1 : decode cX3_add 1 = .ok (.getfield 15, 3) := by decide +kernel
theorem dX3_add_4 : decode cX3_add 4 = .ok (.sipush 160, 3) := by decide +kernel
theorem dX3_add_7 : decode cX3_add 7 = .ok (.if_icmp .ge 20, 3) := by decide +kernel
theorem dX3_add_10 : decode cX3_add 10 = .ok (.aload_n 0, 1) := by decide +kernel
theorem dX3_add_11 : decode cX3_add 11 = .ok (.getfield 9, 3) := by decide +kernel
theorem dX3_add_14 : decode cX3_add 14 = .ok (.aload_n 0, 1) := by decide +kernel
theorem dX3_add_15 : decode cX3_add 15 = .ok (.dup, 1) := by decide +kernel
theorem dX3_add_16 : decode cX3_add 16 = .ok (.getfield 15, 3) := by decide +kernel
theorem dX3_add_19 : decode cX3_add 19 = .ok (.dup_x1, 1) := by decide +kernel
theorem dX3_add_20 : decode cX3_add 20 = .ok (.iconst 1, 1) := by decide +kernel
theorem dX3_add_21 : decode cX3_add 21 = .ok (.iadd, 1) := by decide +kernel
theorem dX3_add_22 : decode cX3_add 22 = .ok (.putfield 15, 3) := by decide +kernel
theorem dX3_add_25 : decode cX3_add 25 = .ok (.iload_n 1, 1) := by decide +kernel
theorem dX3_add_26 : decode cX3_add 26 = .ok (.iastore, 1) := by decide +kernel
theorem dX3_add_27 : decode cX3_add 27 = .ok (.return_, 1) := by decide +kernel
theorem dX3_readInto_0 : decode cX3_readInto 0 = .ok (.aload_n 0, 1) := by decide +kernel
theorem dX3_readInto_1 : decode cX3_readInto 1 = .ok (.aload_n 1, 1) := by decide +kernel
theorem dX3_readInto_2 : decode cX3_readInto 2 = .ok (.putfield 19, 3) := by decide +kernel
theorem dX3_readInto_5 : decode cX3_readInto 5 = .ok (.aload_n 0, 1) := by decide +kernel
theorem dX3_readInto_6 : decode cX3_readInto 6 = .ok (.getfield 19, 3) := by decide +kernel
theorem dX3_readInto_9 : decode cX3_readInto 9 = .ok (.invokevirtual 23, 3) := by decide +kernel
theorem dX3_readInto_12 : decode cX3_readInto 12 = .ok (.aload_n 0, 1) := by decide +kernel
theorem dX3_readInto_13 : decode cX3_readInto 13 = .ok (.iconst 0, 1) := by decide +kernel
theorem dX3_readInto_14 : decode cX3_readInto 14 = .ok (.putfield 28, 3) := by decide +kernel
theorem dX3_readInto_17 : decode cX3_readInto 17 = .ok (.aload_n 0, 1) := by decide +kernel
theorem dX3_readInto_18 : decode cX3_readInto 18 = .ok (.invokevirtual 31, 3) := by decide +kernel
theorem dX3_readInto_21 : decode cX3_readInto 21 = .ok (.iconst 0, 1) := by decide +kernel
theorem dX3_readInto_22 : decode cX3_readInto 22 = .ok (.istore_n 2, 1) := by decide +kernel
theorem dX3_readInto_23 : decode cX3_readInto 23 = .ok (.iload_n 2, 1) := by decide +kernel
theorem dX3_readInto_24 : decode cX3_readInto 24 = .ok (.iconst 3, 1) := by decide +kernel
theorem dX3_readInto_25 : decode cX3_readInto 25 = .ok (.if_icmp .ge 65, 3) := by decide +kernel
theorem dX3_readInto_28 : decode cX3_readInto 28 = .ok (.aload_n 0, 1) := by decide +kernel
theorem dX3_readInto_29 : decode cX3_readInto 29 = .ok (.getfield 34, 3) := by decide +kernel
theorem dX3_readInto_32 : decode cX3_readInto 32 = .ok (.sipush 300, 3) := by decide +kernel
theorem dX3_readInto_35 : decode cX3_readInto 35 = .ok (.iload_n 2, 1) := by decide +kernel
theorem dX3_readInto_36 : decode cX3_readInto 36 = .ok (.iadd, 1) := by decide +kernel
theorem dX3_readInto_37 : decode cX3_readInto 37 = .ok (.if_icmp .eq 8, 3) := by decide +kernel
theorem dX3_readInto_40 : decode cX3_readInto 40 = .ok (.aload_n 0, 1) := by decide +kernel
theorem dX3_readInto_41 : decode cX3_readInto 41 = .ok (.getfield 37, 3) := by decide +kernel
theorem dX3_readInto_44 : decode cX3_readInto 44 = .ok (.ireturn, 1) := by decide +kernel
theorem dX3_readInto_45 : decode cX3_readInto 45 = .ok (.aload_n 0, 1) := by decide +kernel
theorem dX3_readInto_46 : decode cX3_readInto 46 = .ok (.invokevirtual 31, 3) := by decide +kernel
theorem dX3_readInto_49 : decode cX3_readInto 49 = .ok (.aload_n 0, 1) := by decide +kernel
theorem dX3_readInto_50 : decode cX3_readInto 50 = .ok (.iconst 0, 1) := by decide +kernel
theorem dX3_readInto_51 : decode cX3_readInto 51 = .ok (.iconst 0, 1) := by decide +kernel
theorem dX3_readInto_52 : decode cX3_readInto 52 = .ok (.invokevirtual 40, 3) := by decide +kernel
theorem dX3_readInto_55 : decode cX3_readInto 55 = .ok (.ifCond .eq 12, 3) := by decide +kernel
theorem dX3_readInto_58 : decode cX3_readInto 58 = .ok (.aload_n 0, 1) := by decide +kernel
theorem dX3_readInto_59 : decode cX3_readInto 59 = .ok (.getfield 34, 3) := by decide +kernel
theorem dX3_readInto_62 : decode cX3_readInto 62 = .ok (.bipush 59, 2) := by decide +kernel
theorem dX3_readInto_64 : decode cX3_readInto 64 = .ok (.if_icmp .eq 8, 3) := by decide +kernel
theorem dX3_readInto_67 : decode cX3_readInto 67 = .ok (.aload_n 0, 1) := by decide +kernel
theorem dX3_readInto_68 : decode cX3_readInto 68 = .ok (.getfield 37, 3) := by decide +kernel
theorem dX3_readInto_71 : decode cX3_readInto 71 = .ok (.ireturn, 1) := by decide +kernel
theorem dX3_readInto_72 : decode cX3_readInto 72 = .ok (.aload_n 0, 1) := by decide +kernel
theorem dX3_readInto_73 : decode cX3_readInto 73 = .ok (.getfield 19, 3) := by decide +kernel
theorem dX3_readInto_76 : decode cX3_readInto 76 = .ok (.iload_n 2, 1) := by decide +kernel
theorem dX3_readInto_77 : decode cX3_readInto 77 = .ok (.invokevirtual 44, 3) := by decide +kernel
theorem dX3_readInto_80 : decode cX3_readInto 80 = .ok (.aload_n 0, 1) := by decide +kernel
theorem dX3_readInto_81 : decode cX3_readInto 81 = .ok (.invokevirtual 31, 3) := by decide +kernel
theorem dX3_readInto_84 : decode cX3_readInto 84 = .ok (.iinc 2 1, 3) := by decide +kernel
theorem dX3_readInto_87 : decode cX3_readInto 87 = .ok (.goto (-64), 3) := by decide +kernel
theorem dX3_readInto_90 : decode cX3_readInto 90 = .ok (.aload_n 0, 1) := by decide +kernel
theorem dX3_readInto_91 : decode cX3_readInto 91 = .ok (.getfield 34, 3) := by decide +kernel
theorem dX3_readInto_94 : decode cX3_readInto 94 = .ok (.ifCond .ne 7, 3) := by decide +kernel
theorem dX3_readInto_97 : decode cX3_readInto 97 = .ok (.iconst (-1), 1) := by decide +kernel
theorem dX3_readInto_98 : decode cX3_readInto 98 = .ok (.goto 7, 3) := by decide +kernel
theorem dX3_readInto_101 : decode cX3_readInto 101 = .ok (.aload_n 0, 1) := by decide +kernel
theorem dX3_readInto_102 : decode cX3_readInto 102 = .ok (.getfield 37, 3) := by decide +kernel
theorem dX3_readInto_105 : decode cX3_readInto 105 = .ok (.ireturn, 1) := by decide +kernel
theorem dX3_chain_0 : decode cX3_chain 0 = .ok (.iload_n 1, 1) := by decide +kernel
theorem dX3_chain_1 : decode cX3_chain 1 = .ok (.iconst 5, 1) := by decide +kernel
theorem dX3_chain_2 : decode cX3_chain 2 = .ok (.if_icmp .lt 9, 3) := by decide +kernel
theorem dX3_chain_5 : decode cX3_chain 5 = .ok (.aload_n 0, 1) := by decide +kernel
theorem dX3_chain_6 : decode cX3_chain 6 = .ok (.iload_n 2, 1) := by decide +kernel
theorem dX3_chain_7 : decode cX3_chain 7 = .ok (.invokevirtual 48, 3) := by decide +kernel
theorem dX3_chain_10 : decode cX3_chain 10 = .ok (.ireturn, 1) := by decide +kernel
theorem dX3_chain_11 : decode cX3_chain 11 = .ok (.iload_n 1, 1) := by decide +kernel
theorem dX3_chain_12 : decode cX3_chain 12 = .ok (.iconst 2, 1) := by decide +kernel
theorem dX3_chain_13 : decode cX3_chain 13 = .ok (.if_icmp .ne 19, 3) := by decide +kernel
theorem dX3_chain_16 : decode cX3_chain 16 = .ok (.aload_n 0, 1) := by decide +kernel
theorem dX3_chain_17 : decode cX3_chain 17 = .ok (.getfield 34, 3) := by decide +kernel
theorem dX3_chain_20 : decode cX3_chain 20 = .ok (.sipush 305, 3) := by decide +kernel
theorem dX3_chain_23 : decode cX3_chain 23 = .ok (.if_icmp .ne 9, 3) := by decide +kernel
theorem dX3_chain_26 : decode cX3_chain 26 = .ok (.aload_n 0, 1) := by decide +kernel
theorem dX3_chain_27 : decode cX3_chain 27 = .ok (.iload_n 2, 1) := by decide +kernel
theorem dX3_chain_28 : decode cX3_chain 28 = .ok (.invokevirtual 52, 3) := by decide +kernel
theorem dX3_chain_31 : decode cX3_chain 31 = .ok (.ireturn, 1) := by decide +kernel
theorem dX3_chain_32 : decode cX3_chain 32 = .ok (.aload_n 0, 1) := by decide +kernel
theorem dX3_chain_33 : decode cX3_chain 33 = .ok (.iload_n 1, 1) := by decide +kernel
theorem dX3_chain_34 : decode cX3_chain 34 = .ok (.iconst 1, 1) := by decide +kernel
theorem dX3_chain_35 : decode cX3_chain 35 = .ok (.iadd, 1) := by decide +kernel
theorem dX3_chain_36 : decode cX3_chain 36 = .ok (.iload_n 2, 1) := by decide +kernel
theorem dX3_chain_37 : decode cX3_chain 37 = .ok (.invokevirtual 40, 3) := by decide +kernel
theorem dX3_chain_40 : decode cX3_chain 40 = .ok (.ifCond .ne 5, 3) := by decide +kernel
theorem dX3_chain_43 : decode cX3_chain 43 = .ok (.iconst 0, 1) := by decide +kernel
theorem dX3_chain_44 : decode cX3_chain 44 = .ok (.ireturn, 1) := by decide +kernel
theorem dX3_chain_45 : decode cX3_chain 45 = .ok (.iload_n 1, 1) := by decide +kernel
theorem dX3_chain_46 : decode cX3_chain 46 = .ok (.iconst 2, 1) := by decide +kernel
theorem dX3_chain_47 : decode cX3_chain 47 = .ok (.if_icmp .ne 7, 3) := by decide +kernel
theorem dX3_chain_50 : decode cX3_chain 50 = .ok (.iconst 1, 1) := by decide +kernel
theorem dX3_chain_51 : decode cX3_chain 51 = .ok (.goto 6, 3) := by decide +kernel
theorem dX3_chain_54 : decode cX3_chain 54 = .ok (.sipush 160, 3) := by decide +kernel
theorem dX3_chain_57 : decode cX3_chain 57 = .ok (.istore_n 3, 1) := by decide +kernel
theorem dX3_chain_58 : decode cX3_chain 58 = .ok (.iconst 0, 1) := by decide +kernel
theorem dX3_chain_59 : decode cX3_chain 59 = .ok (.istore 4, 2) := by decide +kernel
theorem dX3_chain_61 : decode cX3_chain 61 = .ok (.iload 4, 2) := by decide +kernel
theorem dX3_chain_63 : decode cX3_chain 63 = .ok (.iload_n 3, 1) := by decide +kernel
theorem dX3_chain_64 : decode cX3_chain 64 = .ok (.if_icmp .ge 53, 3) := by decide +kernel
theorem dX3_chain_67 : decode cX3_chain 67 = .ok (.iload_n 1, 1) := by decide +kernel
theorem dX3_chain_68 : decode cX3_chain 68 = .ok (.aload_n 0, 1) := by decide +kernel
theorem dX3_chain_69 : decode cX3_chain 69 = .ok (.getfield 34, 3) := by decide +kernel
theorem dX3_chain_72 : decode cX3_chain 72 = .ok (.invokestatic 55, 3) := by decide +kernel
theorem dX3_chain_75 : decode cX3_chain 75 = .ok (.ifCond .eq 42, 3) := by decide +kernel
theorem dX3_chain_78 : decode cX3_chain 78 = .ok (.aload_n 0, 1) := by decide +kernel
theorem dX3_chain_79 : decode cX3_chain 79 = .ok (.getfield 34, 3) := by decide +kernel
theorem dX3_chain_82 : decode cX3_chain 82 = .ok (.istore 5, 2) := by decide +kernel
theorem dX3_chain_84 : decode cX3_chain 84 = .ok (.aload_n 0, 1) := by decide +kernel
theorem dX3_chain_85 : decode cX3_chain 85 = .ok (.invokevirtual 31, 3) := by decide +kernel
theorem dX3_chain_88 : decode cX3_chain 88 = .ok (.aload_n 0, 1) := by decide +kernel
theorem dX3_chain_89 : decode cX3_chain 89 = .ok (.iload_n 1, 1) := by decide +kernel
theorem dX3_chain_90 : decode cX3_chain 90 = .ok (.iconst 1, 1) := by decide +kernel
theorem dX3_chain_91 : decode cX3_chain 91 = .ok (.iadd, 1) := by decide +kernel
theorem dX3_chain_92 : decode cX3_chain 92 = .ok (.iload_n 2, 1) := by decide +kernel
theorem dX3_chain_93 : decode cX3_chain 93 = .ok (.invokevirtual 40, 3) := by decide +kernel
theorem dX3_chain_96 : decode cX3_chain 96 = .ok (.ifCond .ne 5, 3) := by decide +kernel
theorem dX3_chain_99 : decode cX3_chain 99 = .ok (.iconst 0, 1) := by decide +kernel
theorem dX3_chain_100 : decode cX3_chain 100 = .ok (.ireturn, 1) := by decide +kernel
theorem dX3_chain_101 : decode cX3_chain 101 = .ok (.aload_n 0, 1) := by decide +kernel
theorem dX3_chain_102 : decode cX3_chain 102 = .ok (.getfield 19, 3) := by decide +kernel
theorem dX3_chain_105 : decode cX3_chain 105 = .ok (.iload 5, 2) := by decide +kernel
theorem dX3_chain_107 : decode cX3_chain 107 = .ok (.ineg, 1) := by decide +kernel
theorem dX3_chain_108 : decode cX3_chain 108 = .ok (.invokevirtual 58, 3) := by decide +kernel
theorem dX3_chain_111 : decode cX3_chain 111 = .ok (.iinc 4 1, 3) := by decide +kernel
theorem dX3_chain_114 : decode cX3_chain 114 = .ok (.goto (-53), 3) := by decide +kernel
theorem dX3_chain_117 : decode cX3_chain 117 = .ok (.iconst 1, 1) := by decide +kernel
theorem dX3_chain_118 : decode cX3_chain 118 = .ok (.ireturn, 1) := by decide +kernel
theorem dX3_joins_0 : decode cX3_joins 0 = .ok (.iload_n 0, 1) := by decide +kernel
theorem dX3_joins_1 : decode cX3_joins 1 = .ok (.tableswitch 93 0 3 #[31, 44, 57, 75], 31) := by decide +kernel
theorem dX3_joins_32 : decode cX3_joins 32 = .ok (.iload_n 1, 1) := by decide +kernel
theorem dX3_joins_33 : decode cX3_joins 33 = .ok (.sipush 303, 3) := by decide +kernel
theorem dX3_joins_36 : decode cX3_joins 36 = .ok (.if_icmp .ne 7, 3) := by decide +kernel
theorem dX3_joins_39 : decode cX3_joins 39 = .ok (.iconst 1, 1) := by decide +kernel
theorem dX3_joins_40 : decode cX3_joins 40 = .ok (.goto 4, 3) := by decide +kernel
theorem dX3_joins_43 : decode cX3_joins 43 = .ok (.iconst 0, 1) := by decide +kernel
theorem dX3_joins_44 : decode cX3_joins 44 = .ok (.ireturn, 1) := by decide +kernel
theorem dX3_joins_45 : decode cX3_joins 45 = .ok (.iload_n 1, 1) := by decide +kernel
theorem dX3_joins_46 : decode cX3_joins 46 = .ok (.sipush 304, 3) := by decide +kernel
theorem dX3_joins_49 : decode cX3_joins 49 = .ok (.if_icmp .ne 7, 3) := by decide +kernel
theorem dX3_joins_52 : decode cX3_joins 52 = .ok (.iconst 1, 1) := by decide +kernel
theorem dX3_joins_53 : decode cX3_joins 53 = .ok (.goto 4, 3) := by decide +kernel
theorem dX3_joins_56 : decode cX3_joins 56 = .ok (.iconst 0, 1) := by decide +kernel
theorem dX3_joins_57 : decode cX3_joins 57 = .ok (.ireturn, 1) := by decide +kernel
theorem dX3_joins_58 : decode cX3_joins 58 = .ok (.iload_n 1, 1) := by decide +kernel
theorem dX3_joins_59 : decode cX3_joins 59 = .ok (.bipush 60, 2) := by decide +kernel
theorem dX3_joins_61 : decode cX3_joins 61 = .ok (.if_icmp .eq 9, 3) := by decide +kernel
theorem dX3_joins_64 : decode cX3_joins 64 = .ok (.iload_n 1, 1) := by decide +kernel
theorem dX3_joins_65 : decode cX3_joins 65 = .ok (.bipush 61, 2) := by decide +kernel
theorem dX3_joins_67 : decode cX3_joins 67 = .ok (.if_icmp .ne 7, 3) := by decide +kernel
theorem dX3_joins_70 : decode cX3_joins 70 = .ok (.iconst 1, 1) := by decide +kernel
theorem dX3_joins_71 : decode cX3_joins 71 = .ok (.goto 4, 3) := by decide +kernel
theorem dX3_joins_74 : decode cX3_joins 74 = .ok (.iconst 0, 1) := by decide +kernel
theorem dX3_joins_75 : decode cX3_joins 75 = .ok (.ireturn, 1) := by decide +kernel
theorem dX3_joins_76 : decode cX3_joins 76 = .ok (.iload_n 1, 1) := by decide +kernel
theorem dX3_joins_77 : decode cX3_joins 77 = .ok (.bipush 43, 2) := by decide +kernel
theorem dX3_joins_79 : decode cX3_joins 79 = .ok (.if_icmp .eq 9, 3) := by decide +kernel
theorem dX3_joins_82 : decode cX3_joins 82 = .ok (.iload_n 1, 1) := by decide +kernel
theorem dX3_joins_83 : decode cX3_joins 83 = .ok (.bipush 45, 2) := by decide +kernel
theorem dX3_joins_85 : decode cX3_joins 85 = .ok (.if_icmp .ne 7, 3) := by decide +kernel
theorem dX3_joins_88 : decode cX3_joins 88 = .ok (.iconst 1, 1) := by decide +kernel
theorem dX3_joins_89 : decode cX3_joins 89 = .ok (.goto 4, 3) := by decide +kernel
theorem dX3_joins_92 : decode cX3_joins 92 = .ok (.iconst 0, 1) := by decide +kernel
theorem dX3_joins_93 : decode cX3_joins 93 = .ok (.ireturn, 1) := by decide +kernel
theorem dX3_joins_94 : decode cX3_joins 94 = .ok (.iload_n 1, 1) := by decide +kernel
theorem dX3_joins_95 : decode cX3_joins 95 = .ok (.bipush 42, 2) := by decide +kernel
theorem dX3_joins_97 : decode cX3_joins 97 = .ok (.if_icmp .ne 7, 3) := by decide +kernel
theorem dX3_joins_100 : decode cX3_joins 100 = .ok (.iconst 1, 1) := by decide +kernel
theorem dX3_joins_101 : decode cX3_joins 101 = .ok (.goto 4, 3) := by decide +kernel
theorem dX3_joins_104 : decode cX3_joins 104 = .ok (.iconst 0, 1) := by decide +kernel
theorem dX3_joins_105 : decode cX3_joins 105 = .ok (.ireturn, 1) := by decide +kernel
theorem dX3_negation_0 : decode cX3_negation 0 = .ok (.iload_n 1, 1) := by decide +kernel
theorem dX3_negation_1 : decode cX3_negation 1 = .ok (.iconst 5, 1) := by decide +kernel
theorem dX3_negation_2 : decode cX3_negation 2 = .ok (.if_icmp .lt 5, 3) := by decide +kernel
theorem dX3_negation_5 : decode cX3_negation 5 = .ok (.iconst 0, 1) := by decide +kernel
theorem dX3_negation_6 : decode cX3_negation 6 = .ok (.ireturn, 1) := by decide +kernel
theorem dX3_negation_7 : decode cX3_negation 7 = .ok (.aload_n 0, 1) := by decide +kernel
theorem dX3_negation_8 : decode cX3_negation 8 = .ok (.invokevirtual 31, 3) := by decide +kernel
theorem dX3_negation_11 : decode cX3_negation 11 = .ok (.aload_n 0, 1) := by decide +kernel
theorem dX3_negation_12 : decode cX3_negation 12 = .ok (.iconst 2, 1) := by decide +kernel
theorem dX3_negation_13 : decode cX3_negation 13 = .ok (.iload_n 1, 1) := by decide +kernel
theorem dX3_negation_14 : decode cX3_negation 14 = .ok (.iconst 1, 1) := by decide +kernel
theorem dX3_negation_15 : decode cX3_negation 15 = .ok (.iadd, 1) := by decide +kernel
theorem dX3_negation_16 : decode cX3_negation 16 = .ok (.invokevirtual 40, 3) := by decide +kernel
theorem dX3_negation_19 : decode cX3_negation 19 = .ok (.ifCond .ne 5, 3) := by decide +kernel
theorem dX3_negation_22 : decode cX3_negation 22 = .ok (.iconst 0, 1) := by decide +kernel
theorem dX3_negation_23 : decode cX3_negation 23 = .ok (.ireturn, 1) := by decide +kernel
theorem dX3_negation_24 : decode cX3_negation 24 = .ok (.aload_n 0, 1) := by decide +kernel
theorem dX3_negation_25 : decode cX3_negation 25 = .ok (.getfield 19, 3) := by decide +kernel
theorem dX3_negation_28 : decode cX3_negation 28 = .ok (.sipush (-305), 3) := by decide +kernel
theorem dX3_negation_31 : decode cX3_negation 31 = .ok (.invokevirtual 58, 3) := by decide +kernel
theorem dX3_negation_34 : decode cX3_negation 34 = .ok (.iconst 1, 1) := by decide +kernel
theorem dX3_negation_35 : decode cX3_negation 35 = .ok (.ireturn, 1) := by decide +kernel
theorem dX3_one_0 : decode cX3_one 0 = .ok (.aload_n 0, 1) := by decide +kernel
theorem dX3_one_1 : decode cX3_one 1 = .ok (.getfield 34, 3) := by decide +kernel
theorem dX3_one_4 : decode cX3_one 4 = .ok (.iconst 2, 1) := by decide +kernel
theorem dX3_one_5 : decode cX3_one 5 = .ok (.if_icmp .ne 17, 3) := by decide +kernel
theorem dX3_one_8 : decode cX3_one 8 = .ok (.aload_n 0, 1) := by decide +kernel
theorem dX3_one_9 : decode cX3_one 9 = .ok (.getfield 19, 3) := by decide +kernel
theorem dX3_one_12 : decode cX3_one 12 = .ok (.aload_n 0, 1) := by decide +kernel
theorem dX3_one_13 : decode cX3_one 13 = .ok (.getfield 61, 3) := by decide +kernel
theorem dX3_one_16 : decode cX3_one 16 = .ok (.invokevirtual 58, 3) := by decide +kernel
theorem dX3_one_19 : decode cX3_one 19 = .ok (.goto 73, 3) := by decide +kernel
theorem dX3_one_22 : decode cX3_one 22 = .ok (.aload_n 0, 1) := by decide +kernel
theorem dX3_one_23 : decode cX3_one 23 = .ok (.getfield 34, 3) := by decide +kernel
theorem dX3_one_26 : decode cX3_one 26 = .ok (.sipush 306, 3) := by decide +kernel
theorem dX3_one_29 : decode cX3_one 29 = .ok (.sipush 311, 3) := by decide +kernel
theorem dX3_one_32 : decode cX3_one 32 = .ok (.invokestatic 64, 3) := by decide +kernel
theorem dX3_one_35 : decode cX3_one 35 = .ok (.ifCond .eq 18, 3) := by decide +kernel
theorem dX3_one_38 : decode cX3_one 38 = .ok (.aload_n 0, 1) := by decide +kernel
theorem dX3_one_39 : decode cX3_one 39 = .ok (.getfield 19, 3) := by decide +kernel
theorem dX3_one_42 : decode cX3_one 42 = .ok (.aload_n 0, 1) := by decide +kernel
theorem dX3_one_43 : decode cX3_one 43 = .ok (.getfield 34, 3) := by decide +kernel
theorem dX3_one_46 : decode cX3_one 46 = .ok (.ineg, 1) := by decide +kernel
theorem dX3_one_47 : decode cX3_one 47 = .ok (.invokevirtual 58, 3) := by decide +kernel
theorem dX3_one_50 : decode cX3_one 50 = .ok (.goto 42, 3) := by decide +kernel
theorem dX3_one_53 : decode cX3_one 53 = .ok (.aload_n 0, 1) := by decide +kernel
theorem dX3_one_54 : decode cX3_one 54 = .ok (.getfield 34, 3) := by decide +kernel
theorem dX3_one_57 : decode cX3_one 57 = .ok (.bipush 45, 2) := by decide +kernel
theorem dX3_one_59 : decode cX3_one 59 = .ok (.if_icmp .eq 12, 3) := by decide +kernel
theorem dX3_one_62 : decode cX3_one 62 = .ok (.aload_n 0, 1) := by decide +kernel
theorem dX3_one_63 : decode cX3_one 63 = .ok (.getfield 34, 3) := by decide +kernel
theorem dX3_one_66 : decode cX3_one 66 = .ok (.bipush 40, 2) := by decide +kernel
theorem dX3_one_68 : decode cX3_one 68 = .ok (.if_icmp .ne 22, 3) := by decide +kernel
theorem dX3_one_71 : decode cX3_one 71 = .ok (.iload_n 1, 1) := by decide +kernel
theorem dX3_one_72 : decode cX3_one 72 = .ok (.iconst 5, 1) := by decide +kernel
theorem dX3_one_73 : decode cX3_one 73 = .ok (.if_icmp .ge 17, 3) := by decide +kernel
theorem dX3_one_76 : decode cX3_one 76 = .ok (.aload_n 0, 1) := by decide +kernel
theorem dX3_one_77 : decode cX3_one 77 = .ok (.iload_n 1, 1) := by decide +kernel
theorem dX3_one_78 : decode cX3_one 78 = .ok (.iconst 1, 1) := by decide +kernel
theorem dX3_one_79 : decode cX3_one 79 = .ok (.iadd, 1) := by decide +kernel
theorem dX3_one_80 : decode cX3_one 80 = .ok (.invokevirtual 68, 3) := by decide +kernel
theorem dX3_one_83 : decode cX3_one 83 = .ok (.ifCond .eq 7, 3) := by decide +kernel
theorem dX3_one_86 : decode cX3_one 86 = .ok (.iconst 1, 1) := by decide +kernel
theorem dX3_one_87 : decode cX3_one 87 = .ok (.goto 4, 3) := by decide +kernel
theorem dX3_one_90 : decode cX3_one 90 = .ok (.iconst 0, 1) := by decide +kernel
theorem dX3_one_91 : decode cX3_one 91 = .ok (.ireturn, 1) := by decide +kernel
theorem dX3_one_92 : decode cX3_one 92 = .ok (.aload_n 0, 1) := by decide +kernel
theorem dX3_one_93 : decode cX3_one 93 = .ok (.invokevirtual 31, 3) := by decide +kernel
theorem dX3_one_96 : decode cX3_one 96 = .ok (.iconst 1, 1) := by decide +kernel
theorem dX3_one_97 : decode cX3_one 97 = .ok (.ireturn, 1) := by decide +kernel
theorem dX3_opened_0 : decode cX3_opened 0 = .ok (.aload_n 0, 1) := by decide +kernel
theorem dX3_opened_1 : decode cX3_opened 1 = .ok (.getfield 34, 3) := by decide +kernel
theorem dX3_opened_4 : decode cX3_opened 4 = .ok (.bipush 45, 2) := by decide +kernel
theorem dX3_opened_6 : decode cX3_opened 6 = .ok (.if_icmp .ne 7, 3) := by decide +kernel
theorem dX3_opened_9 : decode cX3_opened 9 = .ok (.iconst 1, 1) := by decide +kernel
theorem dX3_opened_10 : decode cX3_opened 10 = .ok (.goto 4, 3) := by decide +kernel
theorem dX3_opened_13 : decode cX3_opened 13 = .ok (.iconst 0, 1) := by decide +kernel
theorem dX3_opened_14 : decode cX3_opened 14 = .ok (.istore_n 2, 1) := by decide +kernel
theorem dX3_opened_15 : decode cX3_opened 15 = .ok (.aload_n 0, 1) := by decide +kernel
theorem dX3_opened_16 : decode cX3_opened 16 = .ok (.invokevirtual 31, 3) := by decide +kernel
theorem dX3_opened_19 : decode cX3_opened 19 = .ok (.iload_n 2, 1) := by decide +kernel
theorem dX3_opened_20 : decode cX3_opened 20 = .ok (.ifCond .eq 24, 3) := by decide +kernel
theorem dX3_opened_23 : decode cX3_opened 23 = .ok (.aload_n 0, 1) := by decide +kernel
theorem dX3_opened_24 : decode cX3_opened 24 = .ok (.iload_n 1, 1) := by decide +kernel
theorem dX3_opened_25 : decode cX3_opened 25 = .ok (.invokevirtual 48, 3) := by decide +kernel
theorem dX3_opened_28 : decode cX3_opened 28 = .ok (.ifCond .ne 5, 3) := by decide +kernel
theorem dX3_opened_31 : decode cX3_opened 31 = .ok (.iconst 0, 1) := by decide +kernel
theorem dX3_opened_32 : decode cX3_opened 32 = .ok (.ireturn, 1) := by decide +kernel
theorem dX3_opened_33 : decode cX3_opened 33 = .ok (.aload_n 0, 1) := by decide +kernel
theorem dX3_opened_34 : decode cX3_opened 34 = .ok (.getfield 19, 3) := by decide +kernel
theorem dX3_opened_37 : decode cX3_opened 37 = .ok (.bipush (-3), 2) := by decide +kernel
theorem dX3_opened_39 : decode cX3_opened 39 = .ok (.invokevirtual 58, 3) := by decide +kernel
theorem dX3_opened_42 : decode cX3_opened 42 = .ok (.iconst 1, 1) := by decide +kernel
theorem dX3_opened_43 : decode cX3_opened 43 = .ok (.ireturn, 1) := by decide +kernel
theorem dX3_opened_44 : decode cX3_opened 44 = .ok (.aload_n 0, 1) := by decide +kernel
theorem dX3_opened_45 : decode cX3_opened 45 = .ok (.iconst 0, 1) := by decide +kernel
theorem dX3_opened_46 : decode cX3_opened 46 = .ok (.iload_n 1, 1) := by decide +kernel
theorem dX3_opened_47 : decode cX3_opened 47 = .ok (.invokevirtual 40, 3) := by decide +kernel
theorem dX3_opened_50 : decode cX3_opened 50 = .ok (.ifCond .eq 12, 3) := by decide +kernel
theorem dX3_opened_53 : decode cX3_opened 53 = .ok (.aload_n 0, 1) := by decide +kernel
theorem dX3_opened_54 : decode cX3_opened 54 = .ok (.getfield 34, 3) := by decide +kernel
theorem dX3_opened_57 : decode cX3_opened 57 = .ok (.bipush 41, 2) := by decide +kernel
theorem dX3_opened_59 : decode cX3_opened 59 = .ok (.if_icmp .eq 5, 3) := by decide +kernel
theorem dX3_opened_62 : decode cX3_opened 62 = .ok (.iconst 0, 1) := by decide +kernel
theorem dX3_opened_63 : decode cX3_opened 63 = .ok (.ireturn, 1) := by decide +kernel
theorem dX3_opened_64 : decode cX3_opened 64 = .ok (.aload_n 0, 1) := by decide +kernel
theorem dX3_opened_65 : decode cX3_opened 65 = .ok (.invokevirtual 31, 3) := by decide +kernel
theorem dX3_opened_68 : decode cX3_opened 68 = .ok (.iconst 1, 1) := by decide +kernel
theorem dX3_opened_69 : decode cX3_opened 69 = .ok (.ireturn, 1) := by decide +kernel
theorem dX3_advance_0 : decode cX3_advance 0 = .ok (.aload_n 0, 1) := by decide +kernel
theorem dX3_advance_1 : decode cX3_advance 1 = .ok (.getfield 28, 3) := by decide +kernel
theorem dX3_advance_4 : decode cX3_advance 4 = .ok (.istore_n 1, 1) := by decide +kernel
theorem dX3_advance_5 : decode cX3_advance 5 = .ok (.iload_n 1, 1) := by decide +kernel
theorem dX3_advance_6 : decode cX3_advance 6 = .ok (.aload_n 0, 1) := by decide +kernel
theorem dX3_advance_7 : decode cX3_advance 7 = .ok (.getfield 15, 3) := by decide +kernel
theorem dX3_advance_10 : decode cX3_advance 10 = .ok (.if_icmp .ge 31, 3) := by decide +kernel
theorem dX3_advance_13 : decode cX3_advance 13 = .ok (.aload_n 0, 1) := by decide +kernel
theorem dX3_advance_14 : decode cX3_advance 14 = .ok (.getfield 9, 3) := by decide +kernel
theorem dX3_advance_17 : decode cX3_advance 17 = .ok (.iload_n 1, 1) := by decide +kernel
theorem dX3_advance_18 : decode cX3_advance 18 = .ok (.iaload, 1) := by decide +kernel
theorem dX3_advance_19 : decode cX3_advance 19 = .ok (.bipush 32, 2) := by decide +kernel
theorem dX3_advance_21 : decode cX3_advance 21 = .ok (.if_icmp .eq 14, 3) := by decide +kernel
theorem dX3_advance_24 : decode cX3_advance 24 = .ok (.aload_n 0, 1) := by decide +kernel
theorem dX3_advance_25 : decode cX3_advance 25 = .ok (.getfield 9, 3) := by decide +kernel
theorem dX3_advance_28 : decode cX3_advance 28 = .ok (.iload_n 1, 1) := by decide +kernel
theorem dX3_advance_29 : decode cX3_advance 29 = .ok (.iaload, 1) := by decide +kernel
theorem dX3_advance_30 : decode cX3_advance 30 = .ok (.bipush 10, 2) := by decide +kernel
theorem dX3_advance_32 : decode cX3_advance 32 = .ok (.if_icmp .ne 9, 3) := by decide +kernel
theorem dX3_advance_35 : decode cX3_advance 35 = .ok (.iinc 1 1, 3) := by decide +kernel
theorem dX3_advance_38 : decode cX3_advance 38 = .ok (.goto (-33), 3) := by decide +kernel
theorem dX3_advance_41 : decode cX3_advance 41 = .ok (.aload_n 0, 1) := by decide +kernel
theorem dX3_advance_42 : decode cX3_advance 42 = .ok (.iload_n 1, 1) := by decide +kernel
theorem dX3_advance_43 : decode cX3_advance 43 = .ok (.putfield 37, 3) := by decide +kernel
theorem dX3_advance_46 : decode cX3_advance 46 = .ok (.iload_n 1, 1) := by decide +kernel
theorem dX3_advance_47 : decode cX3_advance 47 = .ok (.aload_n 0, 1) := by decide +kernel
theorem dX3_advance_48 : decode cX3_advance 48 = .ok (.getfield 15, 3) := by decide +kernel
theorem dX3_advance_51 : decode cX3_advance 51 = .ok (.if_icmp .lt 11, 3) := by decide +kernel
theorem dX3_advance_54 : decode cX3_advance 54 = .ok (.aload_n 0, 1) := by decide +kernel
theorem dX3_advance_55 : decode cX3_advance 55 = .ok (.iconst 0, 1) := by decide +kernel
theorem dX3_advance_56 : decode cX3_advance 56 = .ok (.putfield 34, 3) := by decide +kernel
theorem dX3_advance_59 : decode cX3_advance 59 = .ok (.goto 168, 3) := by decide +kernel
theorem dX3_advance_62 : decode cX3_advance 62 = .ok (.aload_n 0, 1) := by decide +kernel
theorem dX3_advance_63 : decode cX3_advance 63 = .ok (.getfield 9, 3) := by decide +kernel
theorem dX3_advance_66 : decode cX3_advance 66 = .ok (.iload_n 1, 1) := by decide +kernel
theorem dX3_advance_67 : decode cX3_advance 67 = .ok (.iaload, 1) := by decide +kernel
theorem dX3_advance_68 : decode cX3_advance 68 = .ok (.invokestatic 71, 3) := by decide +kernel
theorem dX3_advance_71 : decode cX3_advance 71 = .ok (.ifCond .eq 41, 3) := by decide +kernel
theorem dX3_advance_74 : decode cX3_advance 74 = .ok (.iload_n 1, 1) := by decide +kernel
theorem dX3_advance_75 : decode cX3_advance 75 = .ok (.aload_n 0, 1) := by decide +kernel
theorem dX3_advance_76 : decode cX3_advance 76 = .ok (.getfield 15, 3) := by decide +kernel
theorem dX3_advance_79 : decode cX3_advance 79 = .ok (.if_icmp .ge 21, 3) := by decide +kernel
theorem dX3_advance_82 : decode cX3_advance 82 = .ok (.aload_n 0, 1) := by decide +kernel
theorem dX3_advance_83 : decode cX3_advance 83 = .ok (.getfield 9, 3) := by decide +kernel
theorem dX3_advance_86 : decode cX3_advance 86 = .ok (.iload_n 1, 1) := by decide +kernel
theorem dX3_advance_87 : decode cX3_advance 87 = .ok (.iaload, 1) := by decide +kernel
theorem dX3_advance_88 : decode cX3_advance 88 = .ok (.invokestatic 71, 3) := by decide +kernel
theorem dX3_advance_91 : decode cX3_advance 91 = .ok (.ifCond .eq 9, 3) := by decide +kernel
theorem dX3_advance_94 : decode cX3_advance 94 = .ok (.iinc 1 1, 3) := by decide +kernel
theorem dX3_advance_97 : decode cX3_advance 97 = .ok (.goto (-23), 3) := by decide +kernel
theorem dX3_advance_100 : decode cX3_advance 100 = .ok (.aload_n 0, 1) := by decide +kernel
theorem dX3_advance_101 : decode cX3_advance 101 = .ok (.aload_n 0, 1) := by decide +kernel
theorem dX3_advance_102 : decode cX3_advance 102 = .ok (.iload_n 1, 1) := by decide +kernel
theorem dX3_advance_103 : decode cX3_advance 103 = .ok (.invokevirtual 74, 3) := by decide +kernel
theorem dX3_advance_106 : decode cX3_advance 106 = .ok (.putfield 34, 3) := by decide +kernel
theorem dX3_advance_109 : decode cX3_advance 109 = .ok (.goto 118, 3) := by decide +kernel
theorem dX3_advance_112 : decode cX3_advance 112 = .ok (.aload_n 0, 1) := by decide +kernel
theorem dX3_advance_113 : decode cX3_advance 113 = .ok (.getfield 9, 3) := by decide +kernel
theorem dX3_advance_116 : decode cX3_advance 116 = .ok (.iload_n 1, 1) := by decide +kernel
theorem dX3_advance_117 : decode cX3_advance 117 = .ok (.iaload, 1) := by decide +kernel
theorem dX3_advance_118 : decode cX3_advance 118 = .ok (.invokestatic 78, 3) := by decide +kernel
theorem dX3_advance_121 : decode cX3_advance 121 = .ok (.ifCond .eq 77, 3) := by decide +kernel
theorem dX3_advance_124 : decode cX3_advance 124 = .ok (.aload_n 0, 1) := by decide +kernel
theorem dX3_advance_125 : decode cX3_advance 125 = .ok (.iconst 0, 1) := by decide +kernel
theorem dX3_advance_126 : decode cX3_advance 126 = .ok (.putfield 61, 3) := by decide +kernel
theorem dX3_advance_129 : decode cX3_advance 129 = .ok (.iload_n 1, 1) := by decide +kernel
theorem dX3_advance_130 : decode cX3_advance 130 = .ok (.aload_n 0, 1) := by decide +kernel
theorem dX3_advance_131 : decode cX3_advance 131 = .ok (.getfield 15, 3) := by decide +kernel
theorem dX3_advance_134 : decode cX3_advance 134 = .ok (.if_icmp .ge 42, 3) := by decide +kernel
theorem dX3_advance_137 : decode cX3_advance 137 = .ok (.aload_n 0, 1) := by decide +kernel
theorem dX3_advance_138 : decode cX3_advance 138 = .ok (.getfield 9, 3) := by decide +kernel
theorem dX3_advance_141 : decode cX3_advance 141 = .ok (.iload_n 1, 1) := by decide +kernel
theorem dX3_advance_142 : decode cX3_advance 142 = .ok (.iaload, 1) := by decide +kernel
theorem dX3_advance_143 : decode cX3_advance 143 = .ok (.invokestatic 78, 3) := by decide +kernel
theorem dX3_advance_146 : decode cX3_advance 146 = .ok (.ifCond .eq 30, 3) := by decide +kernel
theorem dX3_advance_149 : decode cX3_advance 149 = .ok (.aload_n 0, 1) := by decide +kernel
theorem dX3_advance_150 : decode cX3_advance 150 = .ok (.aload_n 0, 1) := by decide +kernel
theorem dX3_advance_151 : decode cX3_advance 151 = .ok (.getfield 61, 3) := by decide +kernel
theorem dX3_advance_154 : decode cX3_advance 154 = .ok (.bipush 10, 2) := by decide +kernel
theorem dX3_advance_156 : decode cX3_advance 156 = .ok (.imul, 1) := by decide +kernel
theorem dX3_advance_157 : decode cX3_advance 157 = .ok (.aload_n 0, 1) := by decide +kernel
theorem dX3_advance_158 : decode cX3_advance 158 = .ok (.getfield 9, 3) := by decide +kernel
theorem dX3_advance_161 : decode cX3_advance 161 = .ok (.iload_n 1, 1) := by decide +kernel
theorem dX3_advance_162 : decode cX3_advance 162 = .ok (.iaload, 1) := by decide +kernel
theorem dX3_advance_163 : decode cX3_advance 163 = .ok (.iadd, 1) := by decide +kernel
theorem dX3_advance_164 : decode cX3_advance 164 = .ok (.bipush 48, 2) := by decide +kernel
theorem dX3_advance_166 : decode cX3_advance 166 = .ok (.isub, 1) := by decide +kernel
theorem dX3_advance_167 : decode cX3_advance 167 = .ok (.putfield 61, 3) := by decide +kernel
theorem dX3_advance_170 : decode cX3_advance 170 = .ok (.iinc 1 1, 3) := by decide +kernel
theorem dX3_advance_173 : decode cX3_advance 173 = .ok (.goto (-44), 3) := by decide +kernel
theorem dX3_advance_176 : decode cX3_advance 176 = .ok (.aload_n 0, 1) := by decide +kernel
theorem dX3_advance_177 : decode cX3_advance 177 = .ok (.iload_n 1, 1) := by decide +kernel
theorem dX3_advance_178 : decode cX3_advance 178 = .ok (.aload_n 0, 1) := by decide +kernel
theorem dX3_advance_179 : decode cX3_advance 179 = .ok (.getfield 37, 3) := by decide +kernel
theorem dX3_advance_182 : decode cX3_advance 182 = .ok (.isub, 1) := by decide +kernel
theorem dX3_advance_183 : decode cX3_advance 183 = .ok (.iconst 4, 1) := by decide +kernel
theorem dX3_advance_184 : decode cX3_advance 184 = .ok (.if_icmp .le 7, 3) := by decide +kernel
theorem dX3_advance_187 : decode cX3_advance 187 = .ok (.iconst 1, 1) := by decide +kernel
theorem dX3_advance_188 : decode cX3_advance 188 = .ok (.goto 4, 3) := by decide +kernel
theorem dX3_advance_191 : decode cX3_advance 191 = .ok (.iconst 2, 1) := by decide +kernel
theorem dX3_advance_192 : decode cX3_advance 192 = .ok (.putfield 34, 3) := by decide +kernel
theorem dX3_advance_195 : decode cX3_advance 195 = .ok (.goto 32, 3) := by decide +kernel
theorem dX3_advance_198 : decode cX3_advance 198 = .ok (.aload_n 0, 1) := by decide +kernel
theorem dX3_advance_199 : decode cX3_advance 199 = .ok (.aload_n 0, 1) := by decide +kernel
theorem dX3_advance_200 : decode cX3_advance 200 = .ok (.getfield 9, 3) := by decide +kernel
theorem dX3_advance_203 : decode cX3_advance 203 = .ok (.iload_n 1, 1) := by decide +kernel
theorem dX3_advance_204 : decode cX3_advance 204 = .ok (.iaload, 1) := by decide +kernel
theorem dX3_advance_205 : decode cX3_advance 205 = .ok (.invokestatic 81, 3) := by decide +kernel
theorem dX3_advance_208 : decode cX3_advance 208 = .ok (.ifCond .eq 12, 3) := by decide +kernel
theorem dX3_advance_211 : decode cX3_advance 211 = .ok (.aload_n 0, 1) := by decide +kernel
theorem dX3_advance_212 : decode cX3_advance 212 = .ok (.getfield 9, 3) := by decide +kernel
theorem dX3_advance_215 : decode cX3_advance 215 = .ok (.iload_n 1, 1) := by decide +kernel
theorem dX3_advance_216 : decode cX3_advance 216 = .ok (.iaload, 1) := by decide +kernel
theorem dX3_advance_217 : decode cX3_advance 217 = .ok (.goto 4, 3) := by decide +kernel
theorem dX3_advance_220 : decode cX3_advance 220 = .ok (.iconst 1, 1) := by decide +kernel
theorem dX3_advance_221 : decode cX3_advance 221 = .ok (.putfield 34, 3) := by decide +kernel
theorem dX3_advance_224 : decode cX3_advance 224 = .ok (.iinc 1 1, 3) := by decide +kernel
theorem dX3_advance_227 : decode cX3_advance 227 = .ok (.aload_n 0, 1) := by decide +kernel
theorem dX3_advance_228 : decode cX3_advance 228 = .ok (.iload_n 1, 1) := by decide +kernel
theorem dX3_advance_229 : decode cX3_advance 229 = .ok (.putfield 28, 3) := by decide +kernel
theorem dX3_advance_232 : decode cX3_advance 232 = .ok (.return_, 1) := by decide +kernel
theorem dX3_isLetter_0 : decode cX3_isLetter 0 = .ok (.iload_n 0, 1) := by decide +kernel
theorem dX3_isLetter_1 : decode cX3_isLetter 1 = .ok (.bipush 97, 2) := by decide +kernel
theorem dX3_isLetter_3 : decode cX3_isLetter 3 = .ok (.bipush 122, 2) := by decide +kernel
theorem dX3_isLetter_5 : decode cX3_isLetter 5 = .ok (.invokestatic 64, 3) := by decide +kernel
theorem dX3_isLetter_8 : decode cX3_isLetter 8 = .ok (.ireturn, 1) := by decide +kernel
theorem dX3_isDigit_0 : decode cX3_isDigit 0 = .ok (.iload_n 0, 1) := by decide +kernel
theorem dX3_isDigit_1 : decode cX3_isDigit 1 = .ok (.bipush 48, 2) := by decide +kernel
theorem dX3_isDigit_3 : decode cX3_isDigit 3 = .ok (.bipush 57, 2) := by decide +kernel
theorem dX3_isDigit_5 : decode cX3_isDigit 5 = .ok (.invokestatic 64, 3) := by decide +kernel
theorem dX3_isDigit_8 : decode cX3_isDigit 8 = .ok (.ireturn, 1) := by decide +kernel
theorem dX3_isSign_0 : decode cX3_isSign 0 = .ok (.iload_n 0, 1) := by decide +kernel
theorem dX3_isSign_1 : decode cX3_isSign 1 = .ok (.bipush 40, 2) := by decide +kernel
theorem dX3_isSign_3 : decode cX3_isSign 3 = .ok (.bipush 43, 2) := by decide +kernel
theorem dX3_isSign_5 : decode cX3_isSign 5 = .ok (.invokestatic 64, 3) := by decide +kernel
theorem dX3_isSign_8 : decode cX3_isSign 8 = .ok (.ifCond .ne 20, 3) := by decide +kernel
theorem dX3_isSign_11 : decode cX3_isSign 11 = .ok (.iload_n 0, 1) := by decide +kernel
theorem dX3_isSign_12 : decode cX3_isSign 12 = .ok (.bipush 59, 2) := by decide +kernel
theorem dX3_isSign_14 : decode cX3_isSign 14 = .ok (.bipush 61, 2) := by decide +kernel
theorem dX3_isSign_16 : decode cX3_isSign 16 = .ok (.invokestatic 64, 3) := by decide +kernel
theorem dX3_isSign_19 : decode cX3_isSign 19 = .ok (.ifCond .ne 9, 3) := by decide +kernel
theorem dX3_isSign_22 : decode cX3_isSign 22 = .ok (.iload_n 0, 1) := by decide +kernel
theorem dX3_isSign_23 : decode cX3_isSign 23 = .ok (.bipush 45, 2) := by decide +kernel
theorem dX3_isSign_25 : decode cX3_isSign 25 = .ok (.if_icmp .ne 7, 3) := by decide +kernel
theorem dX3_isSign_28 : decode cX3_isSign 28 = .ok (.iconst 1, 1) := by decide +kernel
theorem dX3_isSign_29 : decode cX3_isSign 29 = .ok (.goto 4, 3) := by decide +kernel
theorem dX3_isSign_32 : decode cX3_isSign 32 = .ok (.iconst 0, 1) := by decide +kernel
theorem dX3_isSign_33 : decode cX3_isSign 33 = .ok (.ireturn, 1) := by decide +kernel
theorem dX3_wordToken_0 : decode cX3_wordToken 0 = .ok (.sipush 300, 3) := by decide +kernel
theorem dX3_wordToken_3 : decode cX3_wordToken 3 = .ok (.istore_n 2, 1) := by decide +kernel
theorem dX3_wordToken_4 : decode cX3_wordToken 4 = .ok (.iconst 0, 1) := by decide +kernel
theorem dX3_wordToken_5 : decode cX3_wordToken 5 = .ok (.istore_n 3, 1) := by decide +kernel
theorem dX3_wordToken_6 : decode cX3_wordToken 6 = .ok (.iload_n 3, 1) := by decide +kernel
theorem dX3_wordToken_7 : decode cX3_wordToken 7 = .ok (.ldc 84, 2) := by decide +kernel
theorem dX3_wordToken_9 : decode cX3_wordToken 9 = .ok (.invokevirtual 86, 3) := by decide +kernel
theorem dX3_wordToken_12 : decode cX3_wordToken 12 = .ok (.if_icmp .ge 36, 3) := by decide +kernel
theorem dX3_wordToken_15 : decode cX3_wordToken 15 = .ok (.ldc 84, 2) := by decide +kernel
theorem dX3_wordToken_17 : decode cX3_wordToken 17 = .ok (.iload_n 3, 1) := by decide +kernel
theorem dX3_wordToken_18 : decode cX3_wordToken 18 = .ok (.invokevirtual 92, 3) := by decide +kernel
theorem dX3_wordToken_21 : decode cX3_wordToken 21 = .ok (.bipush 32, 2) := by decide +kernel
theorem dX3_wordToken_23 : decode cX3_wordToken 23 = .ok (.if_icmp .ne 19, 3) := by decide +kernel
theorem dX3_wordToken_26 : decode cX3_wordToken 26 = .ok (.aload_n 0, 1) := by decide +kernel
theorem dX3_wordToken_27 : decode cX3_wordToken 27 = .ok (.iload_n 3, 1) := by decide +kernel
theorem dX3_wordToken_28 : decode cX3_wordToken 28 = .ok (.iconst 1, 1) := by decide +kernel
theorem dX3_wordToken_29 : decode cX3_wordToken 29 = .ok (.iadd, 1) := by decide +kernel
theorem dX3_wordToken_30 : decode cX3_wordToken 30 = .ok (.iload_n 1, 1) := by decide +kernel
theorem dX3_wordToken_31 : decode cX3_wordToken 31 = .ok (.invokevirtual 96, 3) := by decide +kernel
theorem dX3_wordToken_34 : decode cX3_wordToken 34 = .ok (.ifCond .eq 5, 3) := by decide +kernel
theorem dX3_wordToken_37 : decode cX3_wordToken 37 = .ok (.iload_n 2, 1) := by decide +kernel
theorem dX3_wordToken_38 : decode cX3_wordToken 38 = .ok (.ireturn, 1) := by decide +kernel
theorem dX3_wordToken_39 : decode cX3_wordToken 39 = .ok (.iinc 2 1, 3) := by decide +kernel
theorem dX3_wordToken_42 : decode cX3_wordToken 42 = .ok (.iinc 3 1, 3) := by decide +kernel
theorem dX3_wordToken_45 : decode cX3_wordToken 45 = .ok (.goto (-39), 3) := by decide +kernel
theorem dX3_wordToken_48 : decode cX3_wordToken 48 = .ok (.iconst 1, 1) := by decide +kernel
theorem dX3_wordToken_49 : decode cX3_wordToken 49 = .ok (.ireturn, 1) := by decide +kernel
theorem dX3_standsAt_0 : decode cX3_standsAt 0 = .ok (.iload_n 2, 1) := by decide +kernel
theorem dX3_standsAt_1 : decode cX3_standsAt 1 = .ok (.aload_n 0, 1) := by decide +kernel
theorem dX3_standsAt_2 : decode cX3_standsAt 2 = .ok (.getfield 37, 3) := by decide +kernel
theorem dX3_standsAt_5 : decode cX3_standsAt 5 = .ok (.isub, 1) := by decide +kernel
theorem dX3_standsAt_6 : decode cX3_standsAt 6 = .ok (.istore_n 3, 1) := by decide +kernel
theorem dX3_standsAt_7 : decode cX3_standsAt 7 = .ok (.iload_n 1, 1) := by decide +kernel
theorem dX3_standsAt_8 : decode cX3_standsAt 8 = .ok (.iload_n 3, 1) := by decide +kernel
theorem dX3_standsAt_9 : decode cX3_standsAt 9 = .ok (.iadd, 1) := by decide +kernel
theorem dX3_standsAt_10 : decode cX3_standsAt 10 = .ok (.ldc 84, 2) := by decide +kernel
theorem dX3_standsAt_12 : decode cX3_standsAt 12 = .ok (.invokevirtual 86, 3) := by decide +kernel
theorem dX3_standsAt_15 : decode cX3_standsAt 15 = .ok (.if_icmp .ge 16, 3) := by decide +kernel
theorem dX3_standsAt_18 : decode cX3_standsAt 18 = .ok (.ldc 84, 2) := by decide +kernel
theorem dX3_standsAt_20 : decode cX3_standsAt 20 = .ok (.iload_n 1, 1) := by decide +kernel
theorem dX3_standsAt_21 : decode cX3_standsAt 21 = .ok (.iload_n 3, 1) := by decide +kernel
theorem dX3_standsAt_22 : decode cX3_standsAt 22 = .ok (.iadd, 1) := by decide +kernel
theorem dX3_standsAt_23 : decode cX3_standsAt 23 = .ok (.invokevirtual 92, 3) := by decide +kernel
theorem dX3_standsAt_26 : decode cX3_standsAt 26 = .ok (.bipush 32, 2) := by decide +kernel
theorem dX3_standsAt_28 : decode cX3_standsAt 28 = .ok (.if_icmp .eq 5, 3) := by decide +kernel
theorem dX3_standsAt_31 : decode cX3_standsAt 31 = .ok (.iconst 0, 1) := by decide +kernel
theorem dX3_standsAt_32 : decode cX3_standsAt 32 = .ok (.ireturn, 1) := by decide +kernel
theorem dX3_standsAt_33 : decode cX3_standsAt 33 = .ok (.iconst 0, 1) := by decide +kernel
theorem dX3_standsAt_34 : decode cX3_standsAt 34 = .ok (.istore 4, 2) := by decide +kernel
theorem dX3_standsAt_36 : decode cX3_standsAt 36 = .ok (.iload 4, 2) := by decide +kernel
theorem dX3_standsAt_38 : decode cX3_standsAt 38 = .ok (.iload_n 3, 1) := by decide +kernel
theorem dX3_standsAt_39 : decode cX3_standsAt 39 = .ok (.if_icmp .ge 35, 3) := by decide +kernel
theorem dX3_standsAt_42 : decode cX3_standsAt 42 = .ok (.ldc 84, 2) := by decide +kernel
theorem dX3_standsAt_44 : decode cX3_standsAt 44 = .ok (.iload_n 1, 1) := by decide +kernel
theorem dX3_standsAt_45 : decode cX3_standsAt 45 = .ok (.iload 4, 2) := by decide +kernel
theorem dX3_standsAt_47 : decode cX3_standsAt 47 = .ok (.iadd, 1) := by decide +kernel
theorem dX3_standsAt_48 : decode cX3_standsAt 48 = .ok (.invokevirtual 92, 3) := by decide +kernel
theorem dX3_standsAt_51 : decode cX3_standsAt 51 = .ok (.aload_n 0, 1) := by decide +kernel
theorem dX3_standsAt_52 : decode cX3_standsAt 52 = .ok (.getfield 9, 3) := by decide +kernel
theorem dX3_standsAt_55 : decode cX3_standsAt 55 = .ok (.aload_n 0, 1) := by decide +kernel
theorem dX3_standsAt_56 : decode cX3_standsAt 56 = .ok (.getfield 37, 3) := by decide +kernel
theorem dX3_standsAt_59 : decode cX3_standsAt 59 = .ok (.iload 4, 2) := by decide +kernel
theorem dX3_standsAt_61 : decode cX3_standsAt 61 = .ok (.iadd, 1) := by decide +kernel
theorem dX3_standsAt_62 : decode cX3_standsAt 62 = .ok (.iaload, 1) := by decide +kernel
theorem dX3_standsAt_63 : decode cX3_standsAt 63 = .ok (.if_icmp .eq 5, 3) := by decide +kernel
theorem dX3_standsAt_66 : decode cX3_standsAt 66 = .ok (.iconst 0, 1) := by decide +kernel
theorem dX3_standsAt_67 : decode cX3_standsAt 67 = .ok (.ireturn, 1) := by decide +kernel
theorem dX3_standsAt_68 : decode cX3_standsAt 68 = .ok (.iinc 4 1, 3) := by decide +kernel
theorem dX3_standsAt_71 : decode cX3_standsAt 71 = .ok (.goto (-35), 3) := by decide +kernel
theorem dX3_standsAt_74 : decode cX3_standsAt 74 = .ok (.iconst 1, 1) := by decide +kernel
theorem dX3_standsAt_75 : decode cX3_standsAt 75 = .ok (.ireturn, 1) := by decide +kernel
theorem dX4_init_0 : decode cX4_init 0 = .ok (.aload_n 0, 1) := by decide +kernel
theorem dX4_init_1 : decode cX4_init 1 = .ok (.invokespecial 3, 3) := by decide +kernel
theorem dX4_init_4 : decode cX4_init 4 = .ok (.aload_n 0, 1) := by decide +kernel
theorem dX4_init_5 : decode cX4_init 5 = .ok (.sipush 160, 3) := by decide +kernel
theorem dX4_init_8 : decode cX4_init 8 = .ok (.newarray .int, 2) := by decide +kernel
theorem dX4_init_10 : decode cX4_init 10 = .ok (.putfield 9, 3) := by decide +kernel
theorem dX4_init_13 : decode cX4_init 13 = .ok (.aload_n 0, 1) := by decide +kernel
theorem dX4_init_14 : decode cX4_init 14 = .ok (.iconst 3, 1) := by decide +kernel
theorem dX4_init_15 : decode cX4_init 15 = .ok (.newarray .int, 2) := by decide +kernel
theorem dX4_init_17 : decode cX4_init 17 = .ok (.putfield 15, 3) := by decide +kernel
theorem dX4_init_20 : decode cX4_init 20 = .ok (.aload_n 0, 1) := by decide +kernel
theorem dX4_init_21 : decode cX4_init 21 = .ok (.bipush 40, 2) := by decide +kernel
theorem dX4_init_23 : decode cX4_init 23 = .ok (.newarray .int, 2) := by decide +kernel
theorem dX4_init_25 : decode cX4_init 25 = .ok (.putfield 18, 3) := by decide +kernel
theorem dX4_init_28 : decode cX4_init 28 = .ok (.return_, 1) := by decide +kernel
theorem dX4_clear_0 : decode cX4_clear 0 = .ok (.aload_n 0, 1) := by decide +kernel
theorem dX4_clear_1 : decode cX4_clear 1 = .ok (.iconst 0, 1) := by decide +kernel
theorem dX4_clear_2 : decode cX4_clear 2 = .ok (.putfield 21, 3) := by decide +kernel
theorem dX4_clear_5 : decode cX4_clear 5 = .ok (.return_, 1) := by decide +kernel
theorem dX4_add_0 : decode cX4_add 0 = .ok (.aload_n 0, 1) := by decide +kernel
theorem dX4_add_1 : decode cX4_add 1 = .ok (.getfield 21, 3) := by decide +kernel
theorem dX4_add_4 : decode cX4_add 4 = .ok (.sipush 160, 3) := by decide +kernel
theorem dX4_add_7 : decode cX4_add 7 = .ok (.if_icmp .ge 20, 3) := by decide +kernel
theorem dX4_add_10 : decode cX4_add 10 = .ok (.aload_n 0, 1) := by decide +kernel
theorem dX4_add_11 : decode cX4_add 11 = .ok (.getfield 9, 3) := by decide +kernel
theorem dX4_add_14 : decode cX4_add 14 = .ok (.aload_n 0, 1) := by decide +kernel
theorem dX4_add_15 : decode cX4_add 15 = .ok (.dup, 1) := by decide +kernel
theorem dX4_add_16 : decode cX4_add 16 = .ok (.getfield 21, 3) := by decide +kernel
theorem dX4_add_19 : decode cX4_add 19 = .ok (.dup_x1, 1) := by decide +kernel
theorem dX4_add_20 : decode cX4_add 20 = .ok (.iconst 1, 1) := by decide +kernel
theorem dX4_add_21 : decode cX4_add 21 = .ok (.iadd, 1) := by decide +kernel
theorem dX4_add_22 : decode cX4_add 22 = .ok (.putfield 21, 3) := by decide +kernel
theorem dX4_add_25 : decode cX4_add 25 = .ok (.iload_n 1, 1) := by decide +kernel
theorem dX4_add_26 : decode cX4_add 26 = .ok (.iastore, 1) := by decide +kernel
theorem dX4_add_27 : decode cX4_add 27 = .ok (.return_, 1) := by decide +kernel
theorem dX4_endPart_0 : decode cX4_endPart 0 = .ok (.aload_n 0, 1) := by decide +kernel
theorem dX4_endPart_1 : decode cX4_endPart 1 = .ok (.getfield 15, 3) := by decide +kernel
theorem dX4_endPart_4 : decode cX4_endPart 4 = .ok (.iload_n 1, 1) := by decide +kernel
theorem dX4_endPart_5 : decode cX4_endPart 5 = .ok (.aload_n 0, 1) := by decide +kernel
theorem dX4_endPart_6 : decode cX4_endPart 6 = .ok (.getfield 21, 3) := by decide +kernel
theorem dX4_endPart_9 : decode cX4_endPart 9 = .ok (.iastore, 1) := by decide +kernel
theorem dX4_endPart_10 : decode cX4_endPart 10 = .ok (.return_, 1) := by decide +kernel
theorem dX4_says_0 : decode cX4_says 0 = .ok (.aload_n 0, 1) := by decide +kernel
theorem dX4_says_1 : decode cX4_says 1 = .ok (.iconst 0, 1) := by decide +kernel
theorem dX4_says_2 : decode cX4_says 2 = .ok (.putfield 25, 3) := by decide +kernel
theorem dX4_says_5 : decode cX4_says 5 = .ok (.iload_n 1, 1) := by decide +kernel
theorem dX4_says_6 : decode cX4_says 6 = .ok (.ifCond .le 14, 3) := by decide +kernel
theorem dX4_says_9 : decode cX4_says 9 = .ok (.aload_n 0, 1) := by decide +kernel
theorem dX4_says_10 : decode cX4_says 10 = .ok (.getfield 15, 3) := by decide +kernel
theorem dX4_says_13 : decode cX4_says 13 = .ok (.iload_n 1, 1) := by decide +kernel
theorem dX4_says_14 : decode cX4_says 14 = .ok (.iconst 1, 1) := by decide +kernel
theorem dX4_says_15 : decode cX4_says 15 = .ok (.isub, 1) := by decide +kernel
theorem dX4_says_16 : decode cX4_says 16 = .ok (.iaload, 1) := by decide +kernel
theorem dX4_says_17 : decode cX4_says 17 = .ok (.goto 4, 3) := by decide +kernel
theorem dX4_says_20 : decode cX4_says 20 = .ok (.iconst 0, 1) := by decide +kernel
theorem dX4_says_21 : decode cX4_says 21 = .ok (.istore 5, 2) := by decide +kernel
theorem dX4_says_23 : decode cX4_says 23 = .ok (.aload_n 0, 1) := by decide +kernel
theorem dX4_says_24 : decode cX4_says 24 = .ok (.getfield 15, 3) := by decide +kernel
theorem dX4_says_27 : decode cX4_says 27 = .ok (.iload_n 1, 1) := by decide +kernel
theorem dX4_says_28 : decode cX4_says 28 = .ok (.iaload, 1) := by decide +kernel
theorem dX4_says_29 : decode cX4_says 29 = .ok (.sipush 160, 3) := by decide +kernel
theorem dX4_says_32 : decode cX4_says 32 = .ok (.invokestatic 28, 3) := by decide +kernel
theorem dX4_says_35 : decode cX4_says 35 = .ok (.istore 6, 2) := by decide +kernel
theorem dX4_says_37 : decode cX4_says 37 = .ok (.iload 5, 2) := by decide +kernel
theorem dX4_says_39 : decode cX4_says 39 = .ok (.istore 7, 2) := by decide +kernel
theorem dX4_says_41 : decode cX4_says 41 = .ok (.iload 7, 2) := by decide +kernel
theorem dX4_says_43 : decode cX4_says 43 = .ok (.iload 6, 2) := by decide +kernel
theorem dX4_says_45 : decode cX4_says 45 = .ok (.if_icmp .ge 24, 3) := by decide +kernel
theorem dX4_says_48 : decode cX4_says 48 = .ok (.aload_n 0, 1) := by decide +kernel
theorem dX4_says_49 : decode cX4_says 49 = .ok (.aload_n 0, 1) := by decide +kernel
theorem dX4_says_50 : decode cX4_says 50 = .ok (.getfield 9, 3) := by decide +kernel
theorem dX4_says_53 : decode cX4_says 53 = .ok (.iload 7, 2) := by decide +kernel
theorem dX4_says_55 : decode cX4_says 55 = .ok (.iaload, 1) := by decide +kernel
theorem dX4_says_56 : decode cX4_says 56 = .ok (.aload_n 2, 1) := by decide +kernel
theorem dX4_says_57 : decode cX4_says 57 = .ok (.iload_n 3, 1) := by decide +kernel
theorem dX4_says_58 : decode cX4_says 58 = .ok (.iload 4, 2) := by decide +kernel
theorem dX4_says_60 : decode cX4_says 60 = .ok (.invokevirtual 34, 3) := by decide +kernel
theorem dX4_says_63 : decode cX4_says 63 = .ok (.iinc 7 1, 3) := by decide +kernel
theorem dX4_says_66 : decode cX4_says 66 = .ok (.goto (-25), 3) := by decide +kernel
theorem dX4_says_69 : decode cX4_says 69 = .ok (.aload_n 0, 1) := by decide +kernel
theorem dX4_says_70 : decode cX4_says 70 = .ok (.invokevirtual 38, 3) := by decide +kernel
theorem dX4_says_73 : decode cX4_says 73 = .ok (.bipush 99, 2) := by decide +kernel
theorem dX4_says_75 : decode cX4_says 75 = .ok (.invokestatic 42, 3) := by decide +kernel
theorem dX4_says_78 : decode cX4_says 78 = .ok (.ireturn, 1) := by decide +kernel
theorem dX4_take_0 : decode cX4_take 0 = .ok (.iload_n 1, 1) := by decide +kernel
theorem dX4_take_1 : decode cX4_take 1 = .ok (.ineg, 1) := by decide +kernel
theorem dX4_take_2 : decode cX4_take 2 = .ok (.lookupswitch 188 #[(3, 176), (305, 157), (306, 74), (307, 85), (308, 96), (309, 109), (310, 118), (311, 134)], 74) := by decide +kernel
theorem dX4_take_76 : decode cX4_take 76 = .ok (.aload_n 0, 1) := by decide +kernel
theorem dX4_take_77 : decode cX4_take 77 = .ok (.iload_n 3, 1) := by decide +kernel
theorem dX4_take_78 : decode cX4_take 78 = .ok (.bipush 6, 2) := by decide +kernel
theorem dX4_take_80 : decode cX4_take 80 = .ok (.idiv, 1) := by decide +kernel
theorem dX4_take_81 : decode cX4_take 81 = .ok (.invokevirtual 45, 3) := by decide +kernel
theorem dX4_take_84 : decode cX4_take 84 = .ok (.goto 139, 3) := by decide +kernel
theorem dX4_take_87 : decode cX4_take 87 = .ok (.aload_n 0, 1) := by decide +kernel
theorem dX4_take_88 : decode cX4_take 88 = .ok (.iload_n 3, 1) := by decide +kernel
theorem dX4_take_89 : decode cX4_take 89 = .ok (.bipush 6, 2) := by decide +kernel
theorem dX4_take_91 : decode cX4_take 91 = .ok (.irem, 1) := by decide +kernel
theorem dX4_take_92 : decode cX4_take 92 = .ok (.invokevirtual 45, 3) := by decide +kernel
theorem dX4_take_95 : decode cX4_take 95 = .ok (.goto 128, 3) := by decide +kernel
theorem dX4_take_98 : decode cX4_take 98 = .ok (.aload_n 0, 1) := by decide +kernel
theorem dX4_take_99 : decode cX4_take 99 = .ok (.aload_n 2, 1) := by decide +kernel
theorem dX4_take_100 : decode cX4_take 100 = .ok (.getfield 49, 3) := by decide +kernel
theorem dX4_take_103 : decode cX4_take 103 = .ok (.iload_n 3, 1) := by decide +kernel
theorem dX4_take_104 : decode cX4_take 104 = .ok (.iaload, 1) := by decide +kernel
theorem dX4_take_105 : decode cX4_take 105 = .ok (.invokevirtual 45, 3) := by decide +kernel
theorem dX4_take_108 : decode cX4_take 108 = .ok (.goto 115, 3) := by decide +kernel
theorem dX4_take_111 : decode cX4_take 111 = .ok (.aload_n 0, 1) := by decide +kernel
theorem dX4_take_112 : decode cX4_take 112 = .ok (.iload 4, 2) := by decide +kernel
theorem dX4_take_114 : decode cX4_take 114 = .ok (.invokevirtual 45, 3) := by decide +kernel
theorem dX4_take_117 : decode cX4_take 117 = .ok (.goto 106, 3) := by decide +kernel
theorem dX4_take_120 : decode cX4_take 120 = .ok (.aload_n 0, 1) := by decide +kernel
theorem dX4_take_121 : decode cX4_take 121 = .ok (.aload_n 2, 1) := by decide +kernel
theorem dX4_take_122 : decode cX4_take 122 = .ok (.getfield 54, 3) := by decide +kernel
theorem dX4_take_125 : decode cX4_take 125 = .ok (.iload_n 3, 1) := by decide +kernel
theorem dX4_take_126 : decode cX4_take 126 = .ok (.iaload, 1) := by decide +kernel
theorem dX4_take_127 : decode cX4_take 127 = .ok (.invokestatic 57, 3) := by decide +kernel
theorem dX4_take_130 : decode cX4_take 130 = .ok (.invokevirtual 45, 3) := by decide +kernel
theorem dX4_take_133 : decode cX4_take 133 = .ok (.goto 90, 3) := by decide +kernel
theorem dX4_take_136 : decode cX4_take 136 = .ok (.aload_n 0, 1) := by decide +kernel
theorem dX4_take_137 : decode cX4_take 137 = .ok (.aload_n 2, 1) := by decide +kernel
theorem dX4_take_138 : decode cX4_take 138 = .ok (.getfield 61, 3) := by decide +kernel
theorem dX4_take_141 : decode cX4_take 141 = .ok (.iload_n 3, 1) := by decide +kernel
theorem dX4_take_142 : decode cX4_take 142 = .ok (.invokestatic 65, 3) := by decide +kernel
theorem dX4_take_145 : decode cX4_take 145 = .ok (.ifCond .eq 7, 3) := by decide +kernel
theorem dX4_take_148 : decode cX4_take 148 = .ok (.iconst 1, 1) := by decide +kernel
theorem dX4_take_149 : decode cX4_take 149 = .ok (.goto 4, 3) := by decide +kernel
theorem dX4_take_152 : decode cX4_take 152 = .ok (.iconst 0, 1) := by decide +kernel
theorem dX4_take_153 : decode cX4_take 153 = .ok (.invokevirtual 45, 3) := by decide +kernel
theorem dX4_take_156 : decode cX4_take 156 = .ok (.goto 67, 3) := by decide +kernel
theorem dX4_take_159 : decode cX4_take 159 = .ok (.aload_n 0, 1) := by decide +kernel
theorem dX4_take_160 : decode cX4_take 160 = .ok (.aload_n 0, 1) := by decide +kernel
theorem dX4_take_161 : decode cX4_take 161 = .ok (.invokevirtual 38, 3) := by decide +kernel
theorem dX4_take_164 : decode cX4_take 164 = .ok (.ifCond .ne 7, 3) := by decide +kernel
theorem dX4_take_167 : decode cX4_take 167 = .ok (.iconst 1, 1) := by decide +kernel
theorem dX4_take_168 : decode cX4_take 168 = .ok (.goto 4, 3) := by decide +kernel
theorem dX4_take_171 : decode cX4_take 171 = .ok (.iconst 0, 1) := by decide +kernel
theorem dX4_take_172 : decode cX4_take 172 = .ok (.invokevirtual 45, 3) := by decide +kernel
theorem dX4_take_175 : decode cX4_take 175 = .ok (.goto 48, 3) := by decide +kernel
theorem dX4_take_178 : decode cX4_take 178 = .ok (.aload_n 0, 1) := by decide +kernel
theorem dX4_take_179 : decode cX4_take 179 = .ok (.aload_n 0, 1) := by decide +kernel
theorem dX4_take_180 : decode cX4_take 180 = .ok (.invokevirtual 38, 3) := by decide +kernel
theorem dX4_take_183 : decode cX4_take 183 = .ok (.ineg, 1) := by decide +kernel
theorem dX4_take_184 : decode cX4_take 184 = .ok (.invokevirtual 45, 3) := by decide +kernel
theorem dX4_take_187 : decode cX4_take 187 = .ok (.goto 36, 3) := by decide +kernel
theorem dX4_take_190 : decode cX4_take 190 = .ok (.iload_n 1, 1) := by decide +kernel
theorem dX4_take_191 : decode cX4_take 191 = .ok (.ifCond .lt 11, 3) := by decide +kernel
theorem dX4_take_194 : decode cX4_take 194 = .ok (.aload_n 0, 1) := by decide +kernel
theorem dX4_take_195 : decode cX4_take 195 = .ok (.iload_n 1, 1) := by decide +kernel
theorem dX4_take_196 : decode cX4_take 196 = .ok (.invokevirtual 45, 3) := by decide +kernel
theorem dX4_take_199 : decode cX4_take 199 = .ok (.goto 24, 3) := by decide +kernel
theorem dX4_take_202 : decode cX4_take 202 = .ok (.aload_n 0, 1) := by decide +kernel
theorem dX4_take_203 : decode cX4_take 203 = .ok (.invokevirtual 38, 3) := by decide +kernel
theorem dX4_take_206 : decode cX4_take 206 = .ok (.istore 5, 2) := by decide +kernel
theorem dX4_take_208 : decode cX4_take 208 = .ok (.aload_n 0, 1) := by decide +kernel
theorem dX4_take_209 : decode cX4_take 209 = .ok (.iload_n 1, 1) := by decide +kernel
theorem dX4_take_210 : decode cX4_take 210 = .ok (.ineg, 1) := by decide +kernel
theorem dX4_take_211 : decode cX4_take 211 = .ok (.aload_n 0, 1) := by decide +kernel
theorem dX4_take_212 : decode cX4_take 212 = .ok (.invokevirtual 38, 3) := by decide +kernel
theorem dX4_take_215 : decode cX4_take 215 = .ok (.iload 5, 2) := by decide +kernel
theorem dX4_take_217 : decode cX4_take 217 = .ok (.invokestatic 69, 3) := by decide +kernel
theorem dX4_take_220 : decode cX4_take 220 = .ok (.invokevirtual 45, 3) := by decide +kernel
theorem dX4_take_223 : decode cX4_take 223 = .ok (.return_, 1) := by decide +kernel
theorem dX4_joined_0 : decode cX4_joined 0 = .ok (.iload_n 0, 1) := by decide +kernel
theorem dX4_joined_1 : decode cX4_joined 1 = .ok (.lookupswitch 107 #[(42, 67), (43, 59), (45, 63), (60, 71), (61, 82), (304, 93)], 59) := by decide +kernel
theorem dX4_joined_60 : decode cX4_joined 60 = .ok (.iload_n 1, 1) := by decide +kernel
theorem dX4_joined_61 : decode cX4_joined 61 = .ok (.iload_n 2, 1) := by decide +kernel
theorem dX4_joined_62 : decode cX4_joined 62 = .ok (.iadd, 1) := by decide +kernel
theorem dX4_joined_63 : decode cX4_joined 63 = .ok (.ireturn, 1) := by decide +kernel
theorem dX4_joined_64 : decode cX4_joined 64 = .ok (.iload_n 1, 1) := by decide +kernel
theorem dX4_joined_65 : decode cX4_joined 65 = .ok (.iload_n 2, 1) := by decide +kernel
theorem dX4_joined_66 : decode cX4_joined 66 = .ok (.isub, 1) := by decide +kernel
theorem dX4_joined_67 : decode cX4_joined 67 = .ok (.ireturn, 1) := by decide +kernel
theorem dX4_joined_68 : decode cX4_joined 68 = .ok (.iload_n 1, 1) := by decide +kernel
theorem dX4_joined_69 : decode cX4_joined 69 = .ok (.iload_n 2, 1) := by decide +kernel
theorem dX4_joined_70 : decode cX4_joined 70 = .ok (.imul, 1) := by decide +kernel
theorem dX4_joined_71 : decode cX4_joined 71 = .ok (.ireturn, 1) := by decide +kernel
theorem dX4_joined_72 : decode cX4_joined 72 = .ok (.iload_n 1, 1) := by decide +kernel
theorem dX4_joined_73 : decode cX4_joined 73 = .ok (.iload_n 2, 1) := by decide +kernel
theorem dX4_joined_74 : decode cX4_joined 74 = .ok (.if_icmp .ge 7, 3) := by decide +kernel
theorem dX4_joined_77 : decode cX4_joined 77 = .ok (.iconst 1, 1) := by decide +kernel
theorem dX4_joined_78 : decode cX4_joined 78 = .ok (.goto 4, 3) := by decide +kernel
theorem dX4_joined_81 : decode cX4_joined 81 = .ok (.iconst 0, 1) := by decide +kernel
theorem dX4_joined_82 : decode cX4_joined 82 = .ok (.ireturn, 1) := by decide +kernel
theorem dX4_joined_83 : decode cX4_joined 83 = .ok (.iload_n 1, 1) := by decide +kernel
theorem dX4_joined_84 : decode cX4_joined 84 = .ok (.iload_n 2, 1) := by decide +kernel
theorem dX4_joined_85 : decode cX4_joined 85 = .ok (.if_icmp .ne 7, 3) := by decide +kernel
theorem dX4_joined_88 : decode cX4_joined 88 = .ok (.iconst 1, 1) := by decide +kernel
theorem dX4_joined_89 : decode cX4_joined 89 = .ok (.goto 4, 3) := by decide +kernel
theorem dX4_joined_92 : decode cX4_joined 92 = .ok (.iconst 0, 1) := by decide +kernel
theorem dX4_joined_93 : decode cX4_joined 93 = .ok (.ireturn, 1) := by decide +kernel
theorem dX4_joined_94 : decode cX4_joined 94 = .ok (.iload_n 1, 1) := by decide +kernel
theorem dX4_joined_95 : decode cX4_joined 95 = .ok (.ifCond .eq 11, 3) := by decide +kernel
theorem dX4_joined_98 : decode cX4_joined 98 = .ok (.iload_n 2, 1) := by decide +kernel
theorem dX4_joined_99 : decode cX4_joined 99 = .ok (.ifCond .eq 7, 3) := by decide +kernel
theorem dX4_joined_102 : decode cX4_joined 102 = .ok (.iconst 1, 1) := by decide +kernel
theorem dX4_joined_103 : decode cX4_joined 103 = .ok (.goto 4, 3) := by decide +kernel
theorem dX4_joined_106 : decode cX4_joined 106 = .ok (.iconst 0, 1) := by decide +kernel
theorem dX4_joined_107 : decode cX4_joined 107 = .ok (.ireturn, 1) := by decide +kernel
theorem dX4_joined_108 : decode cX4_joined 108 = .ok (.iload_n 1, 1) := by decide +kernel
theorem dX4_joined_109 : decode cX4_joined 109 = .ok (.ifCond .ne 7, 3) := by decide +kernel
theorem dX4_joined_112 : decode cX4_joined 112 = .ok (.iload_n 2, 1) := by decide +kernel
theorem dX4_joined_113 : decode cX4_joined 113 = .ok (.ifCond .eq 7, 3) := by decide +kernel
theorem dX4_joined_116 : decode cX4_joined 116 = .ok (.iconst 1, 1) := by decide +kernel
theorem dX4_joined_117 : decode cX4_joined 117 = .ok (.goto 4, 3) := by decide +kernel
theorem dX4_joined_120 : decode cX4_joined 120 = .ok (.iconst 0, 1) := by decide +kernel
theorem dX4_joined_121 : decode cX4_joined 121 = .ok (.ireturn, 1) := by decide +kernel
theorem dX4_push_0 : decode cX4_push 0 = .ok (.aload_n 0, 1) := by decide +kernel
theorem dX4_push_1 : decode cX4_push 1 = .ok (.getfield 25, 3) := by decide +kernel
theorem dX4_push_4 : decode cX4_push 4 = .ok (.bipush 40, 2) := by decide +kernel
theorem dX4_push_6 : decode cX4_push 6 = .ok (.if_icmp .ge 20, 3) := by decide +kernel
theorem dX4_push_9 : decode cX4_push 9 = .ok (.aload_n 0, 1) := by decide +kernel
theorem dX4_push_10 : decode cX4_push 10 = .ok (.getfield 18, 3) := by decide +kernel
theorem dX4_push_13 : decode cX4_push 13 = .ok (.aload_n 0, 1) := by decide +kernel
theorem dX4_push_14 : decode cX4_push 14 = .ok (.dup, 1) := by decide +kernel
theorem dX4_push_15 : decode cX4_push 15 = .ok (.getfield 25, 3) := by decide +kernel
theorem dX4_push_18 : decode cX4_push 18 = .ok (.dup_x1, 1) := by decide +kernel
theorem dX4_push_19 : decode cX4_push 19 = .ok (.iconst 1, 1) := by decide +kernel
theorem dX4_push_20 : decode cX4_push 20 = .ok (.iadd, 1) := by decide +kernel
theorem dX4_push_21 : decode cX4_push 21 = .ok (.putfield 25, 3) := by decide +kernel
theorem dX4_push_24 : decode cX4_push 24 = .ok (.iload_n 1, 1) := by decide +kernel
theorem dX4_push_25 : decode cX4_push 25 = .ok (.iastore, 1) := by decide +kernel
theorem dX4_push_26 : decode cX4_push 26 = .ok (.return_, 1) := by decide +kernel
theorem dX4_pop_0 : decode cX4_pop 0 = .ok (.aload_n 0, 1) := by decide +kernel
theorem dX4_pop_1 : decode cX4_pop 1 = .ok (.getfield 25, 3) := by decide +kernel
theorem dX4_pop_4 : decode cX4_pop 4 = .ok (.ifCond .le 22, 3) := by decide +kernel
theorem dX4_pop_7 : decode cX4_pop 7 = .ok (.aload_n 0, 1) := by decide +kernel
theorem dX4_pop_8 : decode cX4_pop 8 = .ok (.getfield 18, 3) := by decide +kernel
theorem dX4_pop_11 : decode cX4_pop 11 = .ok (.aload_n 0, 1) := by decide +kernel
theorem dX4_pop_12 : decode cX4_pop 12 = .ok (.dup, 1) := by decide +kernel
theorem dX4_pop_13 : decode cX4_pop 13 = .ok (.getfield 25, 3) := by decide +kernel
theorem dX4_pop_16 : decode cX4_pop 16 = .ok (.iconst 1, 1) := by decide +kernel
theorem dX4_pop_17 : decode cX4_pop 17 = .ok (.isub, 1) := by decide +kernel
theorem dX4_pop_18 : decode cX4_pop 18 = .ok (.dup_x1, 1) := by decide +kernel
theorem dX4_pop_19 : decode cX4_pop 19 = .ok (.putfield 25, 3) := by decide +kernel
theorem dX4_pop_22 : decode cX4_pop 22 = .ok (.iaload, 1) := by decide +kernel
theorem dX4_pop_23 : decode cX4_pop 23 = .ok (.goto 4, 3) := by decide +kernel
theorem dX4_pop_26 : decode cX4_pop 26 = .ok (.iconst 0, 1) := by decide +kernel
theorem dX4_pop_27 : decode cX4_pop 27 = .ok (.ireturn, 1) := by decide +kernel
theorem dX5_init_0 : decode cX5_init 0 = .ok (.aload_n 0, 1) := by decide +kernel
theorem dX5_init_1 : decode cX5_init 1 = .ok (.invokespecial 1, 3) := by decide +kernel
theorem dX5_init_4 : decode cX5_init 4 = .ok (.aload_n 0, 1) := by decide +kernel
theorem dX5_init_5 : decode cX5_init 5 = .ok (.new 7, 3) := by decide +kernel
theorem dX5_init_8 : decode cX5_init 8 = .ok (.dup, 1) := by decide +kernel
theorem dX5_init_9 : decode cX5_init 9 = .ok (.invokespecial 9, 3) := by decide +kernel
theorem dX5_init_12 : decode cX5_init 12 = .ok (.putfield 10, 3) := by decide +kernel
theorem dX5_init_15 : decode cX5_init 15 = .ok (.aload_n 0, 1) := by decide +kernel
theorem dX5_init_16 : decode cX5_init 16 = .ok (.new 7, 3) := by decide +kernel
theorem dX5_init_19 : decode cX5_init 19 = .ok (.dup, 1) := by decide +kernel
theorem dX5_init_20 : decode cX5_init 20 = .ok (.invokespecial 9, 3) := by decide +kernel
theorem dX5_init_23 : decode cX5_init 23 = .ok (.putfield 16, 3) := by decide +kernel
theorem dX5_init_26 : decode cX5_init 26 = .ok (.aload_n 0, 1) := by decide +kernel
theorem dX5_init_27 : decode cX5_init 27 = .ok (.new 19, 3) := by decide +kernel
theorem dX5_init_30 : decode cX5_init 30 = .ok (.dup, 1) := by decide +kernel
theorem dX5_init_31 : decode cX5_init 31 = .ok (.invokespecial 21, 3) := by decide +kernel
theorem dX5_init_34 : decode cX5_init 34 = .ok (.putfield 22, 3) := by decide +kernel
theorem dX5_init_37 : decode cX5_init 37 = .ok (.aload_n 0, 1) := by decide +kernel
theorem dX5_init_38 : decode cX5_init 38 = .ok (.bipush 6, 2) := by decide +kernel
theorem dX5_init_40 : decode cX5_init 40 = .ok (.anewarray 26, 3) := by decide +kernel
theorem dX5_init_43 : decode cX5_init 43 = .ok (.putfield 28, 3) := by decide +kernel
theorem dX5_init_46 : decode cX5_init 46 = .ok (.aload_n 0, 1) := by decide +kernel
theorem dX5_init_47 : decode cX5_init 47 = .ok (.new 32, 3) := by decide +kernel
theorem dX5_init_50 : decode cX5_init 50 = .ok (.dup, 1) := by decide +kernel
theorem dX5_init_51 : decode cX5_init 51 = .ok (.invokespecial 34, 3) := by decide +kernel
theorem dX5_init_54 : decode cX5_init 54 = .ok (.putfield 35, 3) := by decide +kernel
theorem dX5_init_57 : decode cX5_init 57 = .ok (.aload_n 0, 1) := by decide +kernel
theorem dX5_init_58 : decode cX5_init 58 = .ok (.iconst 4, 1) := by decide +kernel
theorem dX5_init_59 : decode cX5_init 59 = .ok (.anewarray 39, 3) := by decide +kernel
theorem dX5_init_62 : decode cX5_init 62 = .ok (.putfield 41, 3) := by decide +kernel
theorem dX5_init_65 : decode cX5_init 65 = .ok (.aload_n 0, 1) := by decide +kernel
theorem dX5_init_66 : decode cX5_init 66 = .ok (.bipush 48, 2) := by decide +kernel
theorem dX5_init_68 : decode cX5_init 68 = .ok (.newarray .long, 2) := by decide +kernel
theorem dX5_init_70 : decode cX5_init 70 = .ok (.putfield 45, 3) := by decide +kernel
theorem dX5_init_73 : decode cX5_init 73 = .ok (.iconst 0, 1) := by decide +kernel
theorem dX5_init_74 : decode cX5_init 74 = .ok (.istore_n 1, 1) := by decide +kernel
theorem dX5_init_75 : decode cX5_init 75 = .ok (.iload_n 1, 1) := by decide +kernel
theorem dX5_init_76 : decode cX5_init 76 = .ok (.bipush 6, 2) := by decide +kernel
theorem dX5_init_78 : decode cX5_init 78 = .ok (.if_icmp .ge 22, 3) := by decide +kernel
theorem dX5_init_81 : decode cX5_init 81 = .ok (.aload_n 0, 1) := by decide +kernel
theorem dX5_init_82 : decode cX5_init 82 = .ok (.getfield 28, 3) := by decide +kernel
theorem dX5_init_85 : decode cX5_init 85 = .ok (.iload_n 1, 1) := by decide +kernel
theorem dX5_init_86 : decode cX5_init 86 = .ok (.new 26, 3) := by decide +kernel
theorem dX5_init_89 : decode cX5_init 89 = .ok (.dup, 1) := by decide +kernel
theorem dX5_init_90 : decode cX5_init 90 = .ok (.invokespecial 49, 3) := by decide +kernel
theorem dX5_init_93 : decode cX5_init 93 = .ok (.aastore, 1) := by decide +kernel
theorem dX5_init_94 : decode cX5_init 94 = .ok (.iinc 1 1, 3) := by decide +kernel
theorem dX5_init_97 : decode cX5_init 97 = .ok (.goto (-22), 3) := by decide +kernel
theorem dX5_init_100 : decode cX5_init 100 = .ok (.iconst 0, 1) := by decide +kernel
theorem dX5_init_101 : decode cX5_init 101 = .ok (.istore_n 1, 1) := by decide +kernel
theorem dX5_init_102 : decode cX5_init 102 = .ok (.iload_n 1, 1) := by decide +kernel
theorem dX5_init_103 : decode cX5_init 103 = .ok (.iconst 4, 1) := by decide +kernel
theorem dX5_init_104 : decode cX5_init 104 = .ok (.if_icmp .ge 22, 3) := by decide +kernel
theorem dX5_init_107 : decode cX5_init 107 = .ok (.aload_n 0, 1) := by decide +kernel
theorem dX5_init_108 : decode cX5_init 108 = .ok (.getfield 41, 3) := by decide +kernel
theorem dX5_init_111 : decode cX5_init 111 = .ok (.iload_n 1, 1) := by decide +kernel
theorem dX5_init_112 : decode cX5_init 112 = .ok (.new 39, 3) := by decide +kernel
theorem dX5_init_115 : decode cX5_init 115 = .ok (.dup, 1) := by decide +kernel
theorem dX5_init_116 : decode cX5_init 116 = .ok (.invokespecial 50, 3) := by decide +kernel
theorem dX5_init_119 : decode cX5_init 119 = .ok (.aastore, 1) := by decide +kernel
theorem dX5_init_120 : decode cX5_init 120 = .ok (.iinc 1 1, 3) := by decide +kernel
theorem dX5_init_123 : decode cX5_init 123 = .ok (.goto (-21), 3) := by decide +kernel
theorem dX5_init_126 : decode cX5_init 126 = .ok (.iconst 0, 1) := by decide +kernel
theorem dX5_init_127 : decode cX5_init 127 = .ok (.istore_n 1, 1) := by decide +kernel
theorem dX5_init_128 : decode cX5_init 128 = .ok (.iload_n 1, 1) := by decide +kernel
theorem dX5_init_129 : decode cX5_init 129 = .ok (.ldc 51, 2) := by decide +kernel
theorem dX5_init_131 : decode cX5_init 131 = .ok (.invokevirtual 53, 3) := by decide +kernel
theorem dX5_init_134 : decode cX5_init 134 = .ok (.if_icmp .ge 22, 3) := by decide +kernel
theorem dX5_init_137 : decode cX5_init 137 = .ok (.aload_n 0, 1) := by decide +kernel
theorem dX5_init_138 : decode cX5_init 138 = .ok (.getfield 22, 3) := by decide +kernel
theorem dX5_init_141 : decode cX5_init 141 = .ok (.ldc 51, 2) := by decide +kernel
theorem dX5_init_143 : decode cX5_init 143 = .ok (.iload_n 1, 1) := by decide +kernel
theorem dX5_init_144 : decode cX5_init 144 = .ok (.invokevirtual 59, 3) := by decide +kernel
theorem dX5_init_147 : decode cX5_init 147 = .ok (.invokevirtual 63, 3) := by decide +kernel
theorem dX5_init_150 : decode cX5_init 150 = .ok (.iinc 1 1, 3) := by decide +kernel
theorem dX5_init_153 : decode cX5_init 153 = .ok (.goto (-25), 3) := by decide +kernel
theorem dX5_init_156 : decode cX5_init 156 = .ok (.aload_n 0, 1) := by decide +kernel
theorem dX5_init_157 : decode cX5_init 157 = .ok (.invokevirtual 67, 3) := by decide +kernel
theorem dX5_init_160 : decode cX5_init 160 = .ok (.pop, 1) := by decide +kernel
theorem dX5_init_161 : decode cX5_init 161 = .ok (.return_, 1) := by decide +kernel
theorem dX5_feed_0 : decode cX5_feed 0 = .ok (.iload_n 2, 1) := by decide +kernel
theorem dX5_feed_1 : decode cX5_feed 1 = .ok (.invokestatic 93, 3) := by decide +kernel
theorem dX5_feed_4 : decode cX5_feed 4 = .ok (.ifCond .eq 38, 3) := by decide +kernel
theorem dX5_feed_7 : decode cX5_feed 7 = .ok (.iload_n 3, 1) := by decide +kernel
theorem dX5_feed_8 : decode cX5_feed 8 = .ok (.invokestatic 93, 3) := by decide +kernel
theorem dX5_feed_11 : decode cX5_feed 11 = .ok (.ifCond .eq 31, 3) := by decide +kernel
theorem dX5_feed_14 : decode cX5_feed 14 = .ok (.iload 4, 2) := by decide +kernel
theorem dX5_feed_16 : decode cX5_feed 16 = .ok (.invokestatic 93, 3) := by decide +kernel
theorem dX5_feed_19 : decode cX5_feed 19 = .ok (.ifCond .eq 23, 3) := by decide +kernel
theorem dX5_feed_22 : decode cX5_feed 22 = .ok (.iload 5, 2) := by decide +kernel
theorem dX5_feed_24 : decode cX5_feed 24 = .ok (.invokestatic 93, 3) := by decide +kernel
theorem dX5_feed_27 : decode cX5_feed 27 = .ok (.ifCond .eq 15, 3) := by decide +kernel
theorem dX5_feed_30 : decode cX5_feed 30 = .ok (.iload 6, 2) := by decide +kernel
theorem dX5_feed_32 : decode cX5_feed 32 = .ok (.invokestatic 93, 3) := by decide +kernel
theorem dX5_feed_35 : decode cX5_feed 35 = .ok (.ifCond .eq 7, 3) := by decide +kernel
theorem dX5_feed_38 : decode cX5_feed 38 = .ok (.iconst 1, 1) := by decide +kernel
theorem dX5_feed_39 : decode cX5_feed 39 = .ok (.goto 4, 3) := by decide +kernel
theorem dX5_feed_42 : decode cX5_feed 42 = .ok (.iconst 0, 1) := by decide +kernel
theorem dX5_feed_43 : decode cX5_feed 43 = .ok (.istore 7, 2) := by decide +kernel
theorem dX5_feed_45 : decode cX5_feed 45 = .ok (.iload_n 1, 1) := by decide +kernel
theorem dX5_feed_46 : decode cX5_feed 46 = .ok (.iconst 1, 1) := by decide +kernel
theorem dX5_feed_47 : decode cX5_feed 47 = .ok (.iconst 5, 1) := by decide +kernel
theorem dX5_feed_48 : decode cX5_feed 48 = .ok (.invokestatic 97, 3) := by decide +kernel
theorem dX5_feed_51 : decode cX5_feed 51 = .ok (.ifCond .eq 8, 3) := by decide +kernel
theorem dX5_feed_54 : decode cX5_feed 54 = .ok (.iload 7, 2) := by decide +kernel
theorem dX5_feed_56 : decode cX5_feed 56 = .ok (.ifCond .ne 6, 3) := by decide +kernel
theorem dX5_feed_59 : decode cX5_feed 59 = .ok (.bipush (-2), 2) := by decide +kernel
theorem dX5_feed_61 : decode cX5_feed 61 = .ok (.ireturn, 1) := by decide +kernel
theorem dX5_feed_62 : decode cX5_feed 62 = .ok (.aload_n 0, 1) := by decide +kernel
theorem dX5_feed_63 : decode cX5_feed 63 = .ok (.getfield 22, 3) := by decide +kernel
theorem dX5_feed_66 : decode cX5_feed 66 = .ok (.getfield 90, 3) := by decide +kernel
theorem dX5_feed_69 : decode cX5_feed 69 = .ok (.iload_n 1, 1) := by decide +kernel
theorem dX5_feed_70 : decode cX5_feed 70 = .ok (.iadd, 1) := by decide +kernel
theorem dX5_feed_71 : decode cX5_feed 71 = .ok (.sipush 160, 3) := by decide +kernel
theorem dX5_feed_74 : decode cX5_feed 74 = .ok (.if_icmp .le 6, 3) := by decide +kernel
theorem dX5_feed_77 : decode cX5_feed 77 = .ok (.bipush (-4), 2) := by decide +kernel
theorem dX5_feed_79 : decode cX5_feed 79 = .ok (.ireturn, 1) := by decide +kernel
theorem dX5_feed_80 : decode cX5_feed 80 = .ok (.aload_n 0, 1) := by decide +kernel
theorem dX5_feed_81 : decode cX5_feed 81 = .ok (.getfield 22, 3) := by decide +kernel
theorem dX5_feed_84 : decode cX5_feed 84 = .ok (.iload_n 2, 1) := by decide +kernel
theorem dX5_feed_85 : decode cX5_feed 85 = .ok (.invokevirtual 63, 3) := by decide +kernel
theorem dX5_feed_88 : decode cX5_feed 88 = .ok (.iload_n 1, 1) := by decide +kernel
theorem dX5_feed_89 : decode cX5_feed 89 = .ok (.iconst 1, 1) := by decide +kernel
theorem dX5_feed_90 : decode cX5_feed 90 = .ok (.if_icmp .le 11, 3) := by decide +kernel
theorem dX5_feed_93 : decode cX5_feed 93 = .ok (.aload_n 0, 1) := by decide +kernel
theorem dX5_feed_94 : decode cX5_feed 94 = .ok (.getfield 22, 3) := by decide +kernel
theorem dX5_feed_97 : decode cX5_feed 97 = .ok (.iload_n 3, 1) := by decide +kernel
theorem dX5_feed_98 : decode cX5_feed 98 = .ok (.invokevirtual 63, 3) := by decide +kernel
theorem dX5_feed_101 : decode cX5_feed 101 = .ok (.iload_n 1, 1) := by decide +kernel
theorem dX5_feed_102 : decode cX5_feed 102 = .ok (.iconst 2, 1) := by decide +kernel
theorem dX5_feed_103 : decode cX5_feed 103 = .ok (.if_icmp .le 12, 3) := by decide +kernel
theorem dX5_feed_106 : decode cX5_feed 106 = .ok (.aload_n 0, 1) := by decide +kernel
theorem dX5_feed_107 : decode cX5_feed 107 = .ok (.getfield 22, 3) := by decide +kernel
theorem dX5_feed_110 : decode cX5_feed 110 = .ok (.iload 4, 2) := by decide +kernel
theorem dX5_feed_112 : decode cX5_feed 112 = .ok (.invokevirtual 63, 3) := by decide +kernel
theorem dX5_feed_115 : decode cX5_feed 115 = .ok (.iload_n 1, 1) := by decide +kernel
theorem dX5_feed_116 : decode cX5_feed 116 = .ok (.iconst 3, 1) := by decide +kernel
theorem dX5_feed_117 : decode cX5_feed 117 = .ok (.if_icmp .le 12, 3) := by decide +kernel
theorem dX5_feed_120 : decode cX5_feed 120 = .ok (.aload_n 0, 1) := by decide +kernel
theorem dX5_feed_121 : decode cX5_feed 121 = .ok (.getfield 22, 3) := by decide +kernel
theorem dX5_feed_124 : decode cX5_feed 124 = .ok (.iload 5, 2) := by decide +kernel
theorem dX5_feed_126 : decode cX5_feed 126 = .ok (.invokevirtual 63, 3) := by decide +kernel
theorem dX5_feed_129 : decode cX5_feed 129 = .ok (.iload_n 1, 1) := by decide +kernel
theorem dX5_feed_130 : decode cX5_feed 130 = .ok (.iconst 4, 1) := by decide +kernel
theorem dX5_feed_131 : decode cX5_feed 131 = .ok (.if_icmp .le 12, 3) := by decide +kernel
theorem dX5_feed_134 : decode cX5_feed 134 = .ok (.aload_n 0, 1) := by decide +kernel
theorem dX5_feed_135 : decode cX5_feed 135 = .ok (.getfield 22, 3) := by decide +kernel
theorem dX5_feed_138 : decode cX5_feed 138 = .ok (.iload 6, 2) := by decide +kernel
theorem dX5_feed_140 : decode cX5_feed 140 = .ok (.invokevirtual 63, 3) := by decide +kernel
theorem dX5_feed_143 : decode cX5_feed 143 = .ok (.aload_n 0, 1) := by decide +kernel
theorem dX5_feed_144 : decode cX5_feed 144 = .ok (.getfield 22, 3) := by decide +kernel
theorem dX5_feed_147 : decode cX5_feed 147 = .ok (.getfield 90, 3) := by decide +kernel
theorem dX5_feed_150 : decode cX5_feed 150 = .ok (.ireturn, 1) := by decide +kernel
theorem dX5_text_0 : decode cX5_text 0 = .ok (.aload_n 0, 1) := by decide +kernel
theorem dX5_text_1 : decode cX5_text 1 = .ok (.invokevirtual 67, 3) := by decide +kernel
theorem dX5_text_4 : decode cX5_text 4 = .ok (.ireturn, 1) := by decide +kernel
theorem dX5_force_0 : decode cX5_force 0 = .ok (.iload_n 1, 1) := by decide +kernel
theorem dX5_force_1 : decode cX5_force 1 = .ok (.iconst 0, 1) := by decide +kernel
theorem dX5_force_2 : decode cX5_force 2 = .ok (.aload_n 0, 1) := by decide +kernel
theorem dX5_force_3 : decode cX5_force 3 = .ok (.getfield 83, 3) := by decide +kernel
theorem dX5_force_6 : decode cX5_force 6 = .ok (.iconst 1, 1) := by decide +kernel
theorem dX5_force_7 : decode cX5_force 7 = .ok (.isub, 1) := by decide +kernel
theorem dX5_force_8 : decode cX5_force 8 = .ok (.invokestatic 97, 3) := by decide +kernel
theorem dX5_force_11 : decode cX5_force 11 = .ok (.ifCond .ne 6, 3) := by decide +kernel
theorem dX5_force_14 : decode cX5_force 14 = .ok (.bipush (-2), 2) := by decide +kernel
theorem dX5_force_16 : decode cX5_force 16 = .ok (.ireturn, 1) := by decide +kernel
theorem dX5_force_17 : decode cX5_force 17 = .ok (.aload_n 0, 1) := by decide +kernel
theorem dX5_force_18 : decode cX5_force 18 = .ok (.getfield 10, 3) := by decide +kernel
theorem dX5_force_21 : decode cX5_force 21 = .ok (.getfield 87, 3) := by decide +kernel
theorem dX5_force_24 : decode cX5_force 24 = .ok (.istore_n 2, 1) := by decide +kernel
theorem dX5_force_25 : decode cX5_force 25 = .ok (.aload_n 0, 1) := by decide +kernel
theorem dX5_force_26 : decode cX5_force 26 = .ok (.getfield 10, 3) := by decide +kernel
theorem dX5_force_29 : decode cX5_force 29 = .ok (.iload_n 1, 1) := by decide +kernel
theorem dX5_force_30 : decode cX5_force 30 = .ok (.putfield 87, 3) := by decide +kernel
theorem dX5_force_33 : decode cX5_force 33 = .ok (.iload_n 2, 1) := by decide +kernel
theorem dX5_force_34 : decode cX5_force 34 = .ok (.ireturn, 1) := by decide +kernel
theorem dX5_knit_0 : decode cX5_knit 0 = .ok (.iload_n 1, 1) := by decide +kernel
theorem dX5_knit_1 : decode cX5_knit 1 = .ok (.invokestatic 101, 3) := by decide +kernel
theorem dX5_knit_4 : decode cX5_knit 4 = .ok (.ifCond .ne 6, 3) := by decide +kernel
theorem dX5_knit_7 : decode cX5_knit 7 = .ok (.bipush (-5), 2) := by decide +kernel
theorem dX5_knit_9 : decode cX5_knit 9 = .ok (.ireturn, 1) := by decide +kernel
theorem dX5_knit_10 : decode cX5_knit 10 = .ok (.iload_n 2, 1) := by decide +kernel
theorem dX5_knit_11 : decode cX5_knit 11 = .ok (.iload_n 3, 1) := by decide +kernel
theorem dX5_knit_12 : decode cX5_knit 12 = .ok (.invokestatic 114, 3) := by decide +kernel
theorem dX5_knit_15 : decode cX5_knit 15 = .ok (.ifCond .ne 6, 3) := by decide +kernel
theorem dX5_knit_18 : decode cX5_knit 18 = .ok (.bipush (-7), 2) := by decide +kernel
theorem dX5_knit_20 : decode cX5_knit 20 = .ok (.ireturn, 1) := by decide +kernel
theorem dX5_knit_21 : decode cX5_knit 21 = .ok (.aload_n 0, 1) := by decide +kernel
theorem dX5_knit_22 : decode cX5_knit 22 = .ok (.getfield 10, 3) := by decide +kernel
theorem dX5_knit_25 : decode cX5_knit 25 = .ok (.getfield 118, 3) := by decide +kernel
theorem dX5_knit_28 : decode cX5_knit 28 = .ok (.iload_n 1, 1) := by decide +kernel
theorem dX5_knit_29 : decode cX5_knit 29 = .ok (.iaload, 1) := by decide +kernel
theorem dX5_knit_30 : decode cX5_knit 30 = .ok (.istore 4, 2) := by decide +kernel
theorem dX5_knit_32 : decode cX5_knit 32 = .ok (.aload_n 0, 1) := by decide +kernel
theorem dX5_knit_33 : decode cX5_knit 33 = .ok (.getfield 10, 3) := by decide +kernel
theorem dX5_knit_36 : decode cX5_knit 36 = .ok (.iload_n 1, 1) := by decide +kernel
theorem dX5_knit_37 : decode cX5_knit 37 = .ok (.iload_n 2, 1) := by decide +kernel
theorem dX5_knit_38 : decode cX5_knit 38 = .ok (.iload_n 3, 1) := by decide +kernel
theorem dX5_knit_39 : decode cX5_knit 39 = .ok (.invokevirtual 122, 3) := by decide +kernel
theorem dX5_knit_42 : decode cX5_knit 42 = .ok (.iload 4, 2) := by decide +kernel
theorem dX5_knit_44 : decode cX5_knit 44 = .ok (.ireturn, 1) := by decide +kernel
theorem dX5_pin_0 : decode cX5_pin 0 = .ok (.iload_n 1, 1) := by decide +kernel
theorem dX5_pin_1 : decode cX5_pin 1 = .ok (.invokestatic 101, 3) := by decide +kernel
theorem dX5_pin_4 : decode cX5_pin 4 = .ok (.ifCond .ne 6, 3) := by decide +kernel
theorem dX5_pin_7 : decode cX5_pin 7 = .ok (.bipush (-5), 2) := by decide +kernel
theorem dX5_pin_9 : decode cX5_pin 9 = .ok (.ireturn, 1) := by decide +kernel
theorem dX5_pin_10 : decode cX5_pin 10 = .ok (.iload_n 2, 1) := by decide +kernel
theorem dX5_pin_11 : decode cX5_pin 11 = .ok (.iconst 0, 1) := by decide +kernel
theorem dX5_pin_12 : decode cX5_pin 12 = .ok (.iconst 1, 1) := by decide +kernel
theorem dX5_pin_13 : decode cX5_pin 13 = .ok (.invokestatic 97, 3) := by decide +kernel
theorem dX5_pin_16 : decode cX5_pin 16 = .ok (.ifCond .ne 6, 3) := by decide +kernel
theorem dX5_pin_19 : decode cX5_pin 19 = .ok (.bipush (-7), 2) := by decide +kernel
theorem dX5_pin_21 : decode cX5_pin 21 = .ok (.ireturn, 1) := by decide +kernel
theorem dX5_pin_22 : decode cX5_pin 22 = .ok (.aload_n 0, 1) := by decide +kernel
theorem dX5_pin_23 : decode cX5_pin 23 = .ok (.getfield 10, 3) := by decide +kernel
theorem dX5_pin_26 : decode cX5_pin 26 = .ok (.getfield 70, 3) := by decide +kernel
theorem dX5_pin_29 : decode cX5_pin 29 = .ok (.iload_n 1, 1) := by decide +kernel
theorem dX5_pin_30 : decode cX5_pin 30 = .ok (.invokestatic 139, 3) := by decide +kernel
theorem dX5_pin_33 : decode cX5_pin 33 = .ok (.ifCond .eq 7, 3) := by decide +kernel
theorem dX5_pin_36 : decode cX5_pin 36 = .ok (.iconst 1, 1) := by decide +kernel
theorem dX5_pin_37 : decode cX5_pin 37 = .ok (.goto 4, 3) := by decide +kernel
theorem dX5_pin_40 : decode cX5_pin 40 = .ok (.iconst 0, 1) := by decide +kernel
theorem dX5_pin_41 : decode cX5_pin 41 = .ok (.istore_n 3, 1) := by decide +kernel
theorem dX5_pin_42 : decode cX5_pin 42 = .ok (.aload_n 0, 1) := by decide +kernel
theorem dX5_pin_43 : decode cX5_pin 43 = .ok (.getfield 10, 3) := by decide +kernel
theorem dX5_pin_46 : decode cX5_pin 46 = .ok (.iload_n 2, 1) := by decide +kernel
theorem dX5_pin_47 : decode cX5_pin 47 = .ok (.iconst 1, 1) := by decide +kernel
theorem dX5_pin_48 : decode cX5_pin 48 = .ok (.if_icmp .ne 18, 3) := by decide +kernel
theorem dX5_pin_51 : decode cX5_pin 51 = .ok (.aload_n 0, 1) := by decide +kernel
theorem dX5_pin_52 : decode cX5_pin 52 = .ok (.getfield 10, 3) := by decide +kernel
theorem dX5_pin_55 : decode cX5_pin 55 = .ok (.getfield 70, 3) := by decide +kernel
theorem dX5_pin_58 : decode cX5_pin 58 = .ok (.iload_n 1, 1) := by decide +kernel
theorem dX5_pin_59 : decode cX5_pin 59 = .ok (.invokestatic 143, 3) := by decide +kernel
theorem dX5_pin_62 : decode cX5_pin 62 = .ok (.lor, 1) := by decide +kernel
theorem dX5_pin_63 : decode cX5_pin 63 = .ok (.goto 19, 3) := by decide +kernel
theorem dX5_pin_66 : decode cX5_pin 66 = .ok (.aload_n 0, 1) := by decide +kernel
theorem dX5_pin_67 : decode cX5_pin 67 = .ok (.getfield 10, 3) := by decide +kernel
theorem dX5_pin_70 : decode cX5_pin 70 = .ok (.getfield 70, 3) := by decide +kernel
theorem dX5_pin_73 : decode cX5_pin 73 = .ok (.iload_n 1, 1) := by decide +kernel
theorem dX5_pin_74 : decode cX5_pin 74 = .ok (.invokestatic 143, 3) := by decide +kernel
theorem dX5_pin_77 : decode cX5_pin 77 = .ok (.ldc2_w 147, 3) := by decide +kernel
theorem dX5_pin_80 : decode cX5_pin 80 = .ok (.lxor, 1) := by decide +kernel
theorem dX5_pin_81 : decode cX5_pin 81 = .ok (.land, 1) := by decide +kernel
theorem dX5_pin_82 : decode cX5_pin 82 = .ok (.putfield 70, 3) := by decide +kernel
theorem dX5_pin_85 : decode cX5_pin 85 = .ok (.iload_n 3, 1) := by decide +kernel
theorem dX5_pin_86 : decode cX5_pin 86 = .ok (.ireturn, 1) := by decide +kernel
theorem dX5_run_0 : decode cX5_run 0 = .ok (.iload_n 1, 1) := by decide +kernel
theorem dX5_run_1 : decode cX5_run 1 = .ok (.invokestatic 101, 3) := by decide +kernel
theorem dX5_run_4 : decode cX5_run 4 = .ok (.ifCond .ne 6, 3) := by decide +kernel
theorem dX5_run_7 : decode cX5_run 7 = .ok (.bipush (-5), 2) := by decide +kernel
theorem dX5_run_9 : decode cX5_run 9 = .ok (.ireturn, 1) := by decide +kernel
theorem dX5_run_10 : decode cX5_run 10 = .ok (.iload_n 2, 1) := by decide +kernel
theorem dX5_run_11 : decode cX5_run 11 = .ok (.invokestatic 104, 3) := by decide +kernel
theorem dX5_run_14 : decode cX5_run 14 = .ok (.ifCond .eq 12, 3) := by decide +kernel
theorem dX5_run_17 : decode cX5_run 17 = .ok (.iload_n 3, 1) := by decide +kernel
theorem dX5_run_18 : decode cX5_run 18 = .ok (.iconst 0, 1) := by decide +kernel
theorem dX5_run_19 : decode cX5_run 19 = .ok (.iconst 3, 1) := by decide +kernel
theorem dX5_run_20 : decode cX5_run 20 = .ok (.invokestatic 97, 3) := by decide +kernel
theorem dX5_run_23 : decode cX5_run 23 = .ok (.ifCond .ne 6, 3) := by decide +kernel
theorem dX5_run_26 : decode cX5_run 26 = .ok (.bipush (-7), 2) := by decide +kernel
theorem dX5_run_28 : decode cX5_run 28 = .ok (.ireturn, 1) := by decide +kernel
theorem dX5_run_29 : decode cX5_run 29 = .ok (.aload_n 0, 1) := by decide +kernel
theorem dX5_run_30 : decode cX5_run 30 = .ok (.iload_n 1, 1) := by decide +kernel
theorem dX5_run_31 : decode cX5_run 31 = .ok (.iload_n 2, 1) := by decide +kernel
theorem dX5_run_32 : decode cX5_run 32 = .ok (.invokevirtual 163, 3) := by decide +kernel
theorem dX5_run_35 : decode cX5_run 35 = .ok (.pop, 1) := by decide +kernel
theorem dX5_run_36 : decode cX5_run 36 = .ok (.iload_n 3, 1) := by decide +kernel
theorem dX5_run_37 : decode cX5_run 37 = .ok (.tableswitch 49 0 2 #[27, 38, 43], 27) := by decide +kernel
theorem dX5_run_64 : decode cX5_run 64 = .ok (.aload_n 0, 1) := by decide +kernel
theorem dX5_run_65 : decode cX5_run 65 = .ok (.getfield 35, 3) := by decide +kernel
theorem dX5_run_68 : decode cX5_run 68 = .ok (.getfield 167, 3) := by decide +kernel
theorem dX5_run_71 : decode cX5_run 71 = .ok (.invokestatic 74, 3) := by decide +kernel
theorem dX5_run_74 : decode cX5_run 74 = .ok (.ireturn, 1) := by decide +kernel
theorem dX5_run_75 : decode cX5_run 75 = .ok (.aload_n 0, 1) := by decide +kernel
theorem dX5_run_76 : decode cX5_run 76 = .ok (.invokevirtual 170, 3) := by decide +kernel
theorem dX5_run_79 : decode cX5_run 79 = .ok (.ireturn, 1) := by decide +kernel
theorem dX5_run_80 : decode cX5_run 80 = .ok (.aload_n 0, 1) := by decide +kernel
theorem dX5_run_81 : decode cX5_run 81 = .ok (.iconst 1, 1) := by decide +kernel
theorem dX5_run_82 : decode cX5_run 82 = .ok (.invokevirtual 173, 3) := by decide +kernel
theorem dX5_run_85 : decode cX5_run 85 = .ok (.ireturn, 1) := by decide +kernel
theorem dX5_run_86 : decode cX5_run 86 = .ok (.aload_n 0, 1) := by decide +kernel
theorem dX5_run_87 : decode cX5_run 87 = .ok (.iconst 2, 1) := by decide +kernel
theorem dX5_run_88 : decode cX5_run 88 = .ok (.invokevirtual 173, 3) := by decide +kernel
theorem dX5_run_91 : decode cX5_run 91 = .ok (.ireturn, 1) := by decide +kernel
theorem dX5_goes_0 : decode cX5_goes 0 = .ok (.iload_n 1, 1) := by decide +kernel
theorem dX5_goes_1 : decode cX5_goes 1 = .ok (.invokestatic 101, 3) := by decide +kernel
theorem dX5_goes_4 : decode cX5_goes 4 = .ok (.ifCond .eq 19, 3) := by decide +kernel
theorem dX5_goes_7 : decode cX5_goes 7 = .ok (.iload_n 2, 1) := by decide +kernel
theorem dX5_goes_8 : decode cX5_goes 8 = .ok (.invokestatic 104, 3) := by decide +kernel
theorem dX5_goes_11 : decode cX5_goes 11 = .ok (.ifCond .eq 12, 3) := by decide +kernel
theorem dX5_goes_14 : decode cX5_goes 14 = .ok (.iload_n 3, 1) := by decide +kernel
theorem dX5_goes_15 : decode cX5_goes 15 = .ok (.iconst 0, 1) := by decide +kernel
theorem dX5_goes_16 : decode cX5_goes 16 = .ok (.iconst 1, 1) := by decide +kernel
theorem dX5_goes_17 : decode cX5_goes 17 = .ok (.invokestatic 97, 3) := by decide +kernel
theorem dX5_goes_20 : decode cX5_goes 20 = .ok (.ifCond .ne 7, 3) := by decide +kernel
theorem dX5_goes_23 : decode cX5_goes 23 = .ok (.ldc2_w 149, 3) := by decide +kernel
theorem dX5_goes_26 : decode cX5_goes 26 = .ok (.lreturn, 1) := by decide +kernel
theorem dX5_goes_27 : decode cX5_goes 27 = .ok (.aload_n 0, 1) := by decide +kernel
theorem dX5_goes_28 : decode cX5_goes 28 = .ok (.iload_n 1, 1) := by decide +kernel
theorem dX5_goes_29 : decode cX5_goes 29 = .ok (.iload_n 2, 1) := by decide +kernel
theorem dX5_goes_30 : decode cX5_goes 30 = .ok (.invokevirtual 163, 3) := by decide +kernel
theorem dX5_goes_33 : decode cX5_goes 33 = .ok (.pop, 1) := by decide +kernel
theorem dX5_goes_34 : decode cX5_goes 34 = .ok (.iload_n 3, 1) := by decide +kernel
theorem dX5_goes_35 : decode cX5_goes 35 = .ok (.ifCond .ne 13, 3) := by decide +kernel
theorem dX5_goes_38 : decode cX5_goes 38 = .ok (.aload_n 0, 1) := by decide +kernel
theorem dX5_goes_39 : decode cX5_goes 39 = .ok (.getfield 35, 3) := by decide +kernel
theorem dX5_goes_42 : decode cX5_goes 42 = .ok (.getfield 167, 3) := by decide +kernel
theorem dX5_goes_45 : decode cX5_goes 45 = .ok (.goto 10, 3) := by decide +kernel
theorem dX5_goes_48 : decode cX5_goes 48 = .ok (.aload_n 0, 1) := by decide +kernel
theorem dX5_goes_49 : decode cX5_goes 49 = .ok (.getfield 35, 3) := by decide +kernel
theorem dX5_goes_52 : decode cX5_goes 52 = .ok (.getfield 176, 3) := by decide +kernel
theorem dX5_goes_55 : decode cX5_goes 55 = .ok (.lreturn, 1) := by decide +kernel
theorem dX5_left_0 : decode cX5_left 0 = .ok (.iload_n 1, 1) := by decide +kernel
theorem dX5_left_1 : decode cX5_left 1 = .ok (.invokestatic 101, 3) := by decide +kernel
theorem dX5_left_4 : decode cX5_left 4 = .ok (.ifCond .eq 10, 3) := by decide +kernel
theorem dX5_left_7 : decode cX5_left 7 = .ok (.iload_n 3, 1) := by decide +kernel
theorem dX5_left_8 : decode cX5_left 8 = .ok (.invokestatic 101, 3) := by decide +kernel
theorem dX5_left_11 : decode cX5_left 11 = .ok (.ifCond .ne 6, 3) := by decide +kernel
theorem dX5_left_14 : decode cX5_left 14 = .ok (.bipush (-5), 2) := by decide +kernel
theorem dX5_left_16 : decode cX5_left 16 = .ok (.ireturn, 1) := by decide +kernel
theorem dX5_left_17 : decode cX5_left 17 = .ok (.iload_n 2, 1) := by decide +kernel
theorem dX5_left_18 : decode cX5_left 18 = .ok (.invokestatic 104, 3) := by decide +kernel
theorem dX5_left_21 : decode cX5_left 21 = .ok (.ifCond .ne 6, 3) := by decide +kernel
theorem dX5_left_24 : decode cX5_left 24 = .ok (.bipush (-7), 2) := by decide +kernel
theorem dX5_left_26 : decode cX5_left 26 = .ok (.ireturn, 1) := by decide +kernel
theorem dX5_left_27 : decode cX5_left 27 = .ok (.aload_n 0, 1) := by decide +kernel
theorem dX5_left_28 : decode cX5_left 28 = .ok (.iload_n 1, 1) := by decide +kernel
theorem dX5_left_29 : decode cX5_left 29 = .ok (.iload_n 2, 1) := by decide +kernel
theorem dX5_left_30 : decode cX5_left 30 = .ok (.invokevirtual 163, 3) := by decide +kernel
theorem dX5_left_33 : decode cX5_left 33 = .ok (.pop, 1) := by decide +kernel
theorem dX5_left_34 : decode cX5_left 34 = .ok (.aload_n 0, 1) := by decide +kernel
theorem dX5_left_35 : decode cX5_left 35 = .ok (.getfield 35, 3) := by decide +kernel
theorem dX5_left_38 : decode cX5_left 38 = .ok (.getfield 167, 3) := by decide +kernel
theorem dX5_left_41 : decode cX5_left 41 = .ok (.iload_n 3, 1) := by decide +kernel
theorem dX5_left_42 : decode cX5_left 42 = .ok (.invokestatic 139, 3) := by decide +kernel
theorem dX5_left_45 : decode cX5_left 45 = .ok (.ifCond .eq 15, 3) := by decide +kernel
theorem dX5_left_48 : decode cX5_left 48 = .ok (.aload_n 0, 1) := by decide +kernel
theorem dX5_left_49 : decode cX5_left 49 = .ok (.getfield 35, 3) := by decide +kernel
theorem dX5_left_52 : decode cX5_left 52 = .ok (.getfield 179, 3) := by decide +kernel
theorem dX5_left_55 : decode cX5_left 55 = .ok (.iload_n 3, 1) := by decide +kernel
theorem dX5_left_56 : decode cX5_left 56 = .ok (.iaload, 1) := by decide +kernel
theorem dX5_left_57 : decode cX5_left 57 = .ok (.goto 4, 3) := by decide +kernel
theorem dX5_left_60 : decode cX5_left 60 = .ok (.iconst (-1), 1) := by decide +kernel
theorem dX5_left_61 : decode cX5_left 61 = .ok (.ireturn, 1) := by decide +kernel
theorem dX5_column_0 : decode cX5_column 0 = .ok (.iload_n 1, 1) := by decide +kernel
theorem dX5_column_1 : decode cX5_column 1 = .ok (.iconst 0, 1) := by decide +kernel
theorem dX5_column_2 : decode cX5_column 2 = .ok (.iconst 5, 1) := by decide +kernel
theorem dX5_column_3 : decode cX5_column 3 = .ok (.invokestatic 97, 3) := by decide +kernel
theorem dX5_column_6 : decode cX5_column 6 = .ok (.ifCond .ne 6, 3) := by decide +kernel
theorem dX5_column_9 : decode cX5_column 9 = .ok (.bipush (-5), 2) := by decide +kernel
theorem dX5_column_11 : decode cX5_column 11 = .ok (.ireturn, 1) := by decide +kernel
theorem dX5_column_12 : decode cX5_column 12 = .ok (.iload_n 2, 1) := by decide +kernel
theorem dX5_column_13 : decode cX5_column 13 = .ok (.invokestatic 104, 3) := by decide +kernel
theorem dX5_column_16 : decode cX5_column 16 = .ok (.ifCond .eq 12, 3) := by decide +kernel
theorem dX5_column_19 : decode cX5_column 19 = .ok (.iload_n 3, 1) := by decide +kernel
theorem dX5_column_20 : decode cX5_column 20 = .ok (.iconst 0, 1) := by decide +kernel
theorem dX5_column_21 : decode cX5_column 21 = .ok (.iconst 1, 1) := by decide +kernel
theorem dX5_column_22 : decode cX5_column 22 = .ok (.invokestatic 97, 3) := by decide +kernel
theorem dX5_column_25 : decode cX5_column 25 = .ok (.ifCond .ne 6, 3) := by decide +kernel
theorem dX5_column_28 : decode cX5_column 28 = .ok (.bipush (-7), 2) := by decide +kernel
theorem dX5_column_30 : decode cX5_column 30 = .ok (.ireturn, 1) := by decide +kernel
theorem dX5_column_31 : decode cX5_column 31 = .ok (.lconst 0, 1) := by decide +kernel
theorem dX5_column_32 : decode cX5_column 32 = .ok (.lstore 4, 2) := by decide +kernel
theorem dX5_column_34 : decode cX5_column 34 = .ok (.iconst 0, 1) := by decide +kernel
theorem dX5_column_35 : decode cX5_column 35 = .ok (.istore 6, 2) := by decide +kernel
theorem dX5_column_37 : decode cX5_column 37 = .ok (.iload 6, 2) := by decide +kernel
theorem dX5_column_39 : decode cX5_column 39 = .ok (.bipush 8, 2) := by decide +kernel
theorem dX5_column_41 : decode cX5_column 41 = .ok (.if_icmp .ge 24, 3) := by decide +kernel
theorem dX5_column_44 : decode cX5_column 44 = .ok (.lload 4, 2) := by decide +kernel
theorem dX5_column_46 : decode cX5_column 46 = .ok (.iload 6, 2) := by decide +kernel
theorem dX5_column_48 : decode cX5_column 48 = .ok (.bipush 6, 2) := by decide +kernel
theorem dX5_column_50 : decode cX5_column 50 = .ok (.imul, 1) := by decide +kernel
theorem dX5_column_51 : decode cX5_column 51 = .ok (.iload_n 1, 1) := by decide +kernel
theorem dX5_column_52 : decode cX5_column 52 = .ok (.iadd, 1) := by decide +kernel
theorem dX5_column_53 : decode cX5_column 53 = .ok (.invokestatic 143, 3) := by decide +kernel
theorem dX5_column_56 : decode cX5_column 56 = .ok (.lor, 1) := by decide +kernel
theorem dX5_column_57 : decode cX5_column 57 = .ok (.lstore 4, 2) := by decide +kernel
theorem dX5_column_59 : decode cX5_column 59 = .ok (.iinc 6 1, 3) := by decide +kernel
theorem dX5_column_62 : decode cX5_column 62 = .ok (.goto (-25), 3) := by decide +kernel
theorem dX5_column_65 : decode cX5_column 65 = .ok (.aload_n 0, 1) := by decide +kernel
theorem dX5_column_66 : decode cX5_column 66 = .ok (.getfield 35, 3) := by decide +kernel
theorem dX5_column_69 : decode cX5_column 69 = .ok (.aload_n 0, 1) := by decide +kernel
theorem dX5_column_70 : decode cX5_column 70 = .ok (.getfield 10, 3) := by decide +kernel
theorem dX5_column_73 : decode cX5_column 73 = .ok (.aload_n 0, 1) := by decide +kernel
theorem dX5_column_74 : decode cX5_column 74 = .ok (.invokevirtual 107, 3) := by decide +kernel
theorem dX5_column_77 : decode cX5_column 77 = .ok (.lload 4, 2) := by decide +kernel
theorem dX5_column_79 : decode cX5_column 79 = .ok (.lconst 0, 1) := by decide +kernel
theorem dX5_column_80 : decode cX5_column 80 = .ok (.iload_n 2, 1) := by decide +kernel
theorem dX5_column_81 : decode cX5_column 81 = .ok (.invokevirtual 182, 3) := by decide +kernel
theorem dX5_column_84 : decode cX5_column 84 = .ok (.pop, 1) := by decide +kernel
theorem dX5_column_85 : decode cX5_column 85 = .ok (.iload_n 3, 1) := by decide +kernel
theorem dX5_column_86 : decode cX5_column 86 = .ok (.ifCond .ne 13, 3) := by decide +kernel
theorem dX5_column_89 : decode cX5_column 89 = .ok (.aload_n 0, 1) := by decide +kernel
theorem dX5_column_90 : decode cX5_column 90 = .ok (.getfield 35, 3) := by decide +kernel
theorem dX5_column_93 : decode cX5_column 93 = .ok (.getfield 167, 3) := by decide +kernel
theorem dX5_column_96 : decode cX5_column 96 = .ok (.goto 17, 3) := by decide +kernel
theorem dX5_column_99 : decode cX5_column 99 = .ok (.aload_n 0, 1) := by decide +kernel
theorem dX5_column_100 : decode cX5_column 100 = .ok (.getfield 35, 3) := by decide +kernel
theorem dX5_column_103 : decode cX5_column 103 = .ok (.getfield 167, 3) := by decide +kernel
theorem dX5_column_106 : decode cX5_column 106 = .ok (.lload 4, 2) := by decide +kernel
theorem dX5_column_108 : decode cX5_column 108 = .ok (.ldc2_w 147, 3) := by decide +kernel
theorem dX5_column_111 : decode cX5_column 111 = .ok (.lxor, 1) := by decide +kernel
theorem dX5_column_112 : decode cX5_column 112 = .ok (.land, 1) := by decide +kernel
theorem dX5_column_113 : decode cX5_column 113 = .ok (.invokestatic 74, 3) := by decide +kernel
theorem dX5_column_116 : decode cX5_column 116 = .ok (.ireturn, 1) := by decide +kernel
theorem dX5_pinned_0 : decode cX5_pinned 0 = .ok (.iload_n 1, 1) := by decide +kernel
theorem dX5_pinned_1 : decode cX5_pinned 1 = .ok (.invokestatic 101, 3) := by decide +kernel
theorem dX5_pinned_4 : decode cX5_pinned 4 = .ok (.ifCond .ne 6, 3) := by decide +kernel
theorem dX5_pinned_7 : decode cX5_pinned 7 = .ok (.bipush (-5), 2) := by decide +kernel
theorem dX5_pinned_9 : decode cX5_pinned 9 = .ok (.ireturn, 1) := by decide +kernel
theorem dX5_pinned_10 : decode cX5_pinned 10 = .ok (.iload_n 2, 1) := by decide +kernel
theorem dX5_pinned_11 : decode cX5_pinned 11 = .ok (.invokestatic 104, 3) := by decide +kernel
theorem dX5_pinned_14 : decode cX5_pinned 14 = .ok (.ifCond .eq 23, 3) := by decide +kernel
theorem dX5_pinned_17 : decode cX5_pinned 17 = .ok (.iload_n 3, 1) := by decide +kernel
theorem dX5_pinned_18 : decode cX5_pinned 18 = .ok (.iconst 0, 1) := by decide +kernel
theorem dX5_pinned_19 : decode cX5_pinned 19 = .ok (.bipush 48, 2) := by decide +kernel
theorem dX5_pinned_21 : decode cX5_pinned 21 = .ok (.invokestatic 97, 3) := by decide +kernel
theorem dX5_pinned_24 : decode cX5_pinned 24 = .ok (.ifCond .eq 13, 3) := by decide +kernel
theorem dX5_pinned_27 : decode cX5_pinned 27 = .ok (.iload 4, 2) := by decide +kernel
theorem dX5_pinned_29 : decode cX5_pinned 29 = .ok (.iconst 0, 1) := by decide +kernel
theorem dX5_pinned_30 : decode cX5_pinned 30 = .ok (.iconst 2, 1) := by decide +kernel
theorem dX5_pinned_31 : decode cX5_pinned 31 = .ok (.invokestatic 97, 3) := by decide +kernel
theorem dX5_pinned_34 : decode cX5_pinned 34 = .ok (.ifCond .ne 6, 3) := by decide +kernel
theorem dX5_pinned_37 : decode cX5_pinned 37 = .ok (.bipush (-7), 2) := by decide +kernel
theorem dX5_pinned_39 : decode cX5_pinned 39 = .ok (.ireturn, 1) := by decide +kernel
theorem dX5_pinned_40 : decode cX5_pinned 40 = .ok (.aload_n 0, 1) := by decide +kernel
theorem dX5_pinned_41 : decode cX5_pinned 41 = .ok (.iload_n 1, 1) := by decide +kernel
theorem dX5_pinned_42 : decode cX5_pinned 42 = .ok (.iload_n 2, 1) := by decide +kernel
theorem dX5_pinned_43 : decode cX5_pinned 43 = .ok (.lconst 0, 1) := by decide +kernel
theorem dX5_pinned_44 : decode cX5_pinned 44 = .ok (.invokevirtual 209, 3) := by decide +kernel
theorem dX5_pinned_47 : decode cX5_pinned 47 = .ok (.iload_n 3, 1) := by decide +kernel
theorem dX5_pinned_48 : decode cX5_pinned 48 = .ok (.if_icmp .gt 14, 3) := by decide +kernel
theorem dX5_pinned_51 : decode cX5_pinned 51 = .ok (.iload 4, 2) := by decide +kernel
theorem dX5_pinned_53 : decode cX5_pinned 53 = .ok (.ifCond .ne 7, 3) := by decide +kernel
theorem dX5_pinned_56 : decode cX5_pinned 56 = .ok (.iconst 0, 1) := by decide +kernel
theorem dX5_pinned_57 : decode cX5_pinned 57 = .ok (.goto 4, 3) := by decide +kernel
theorem dX5_pinned_60 : decode cX5_pinned 60 = .ok (.iconst (-1), 1) := by decide +kernel
theorem dX5_pinned_61 : decode cX5_pinned 61 = .ok (.ireturn, 1) := by decide +kernel
theorem dX5_pinned_62 : decode cX5_pinned 62 = .ok (.aload_n 0, 1) := by decide +kernel
theorem dX5_pinned_63 : decode cX5_pinned 63 = .ok (.getfield 35, 3) := by decide +kernel
theorem dX5_pinned_66 : decode cX5_pinned 66 = .ok (.getfield 167, 3) := by decide +kernel
theorem dX5_pinned_69 : decode cX5_pinned 69 = .ok (.iload_n 1, 1) := by decide +kernel
theorem dX5_pinned_70 : decode cX5_pinned 70 = .ok (.invokestatic 143, 3) := by decide +kernel
theorem dX5_pinned_73 : decode cX5_pinned 73 = .ok (.ldc2_w 147, 3) := by decide +kernel
theorem dX5_pinned_76 : decode cX5_pinned 76 = .ok (.lxor, 1) := by decide +kernel
theorem dX5_pinned_77 : decode cX5_pinned 77 = .ok (.land, 1) := by decide +kernel
theorem dX5_pinned_78 : decode cX5_pinned 78 = .ok (.lstore 5, 2) := by decide +kernel
theorem dX5_pinned_80 : decode cX5_pinned 80 = .ok (.iconst 0, 1) := by decide +kernel
theorem dX5_pinned_81 : decode cX5_pinned 81 = .ok (.istore 7, 2) := by decide +kernel
theorem dX5_pinned_83 : decode cX5_pinned 83 = .ok (.iload 7, 2) := by decide +kernel
theorem dX5_pinned_85 : decode cX5_pinned 85 = .ok (.bipush 48, 2) := by decide +kernel
theorem dX5_pinned_87 : decode cX5_pinned 87 = .ok (.if_icmp .ge 56, 3) := by decide +kernel
theorem dX5_pinned_90 : decode cX5_pinned 90 = .ok (.lload 5, 2) := by decide +kernel
theorem dX5_pinned_92 : decode cX5_pinned 92 = .ok (.iload 7, 2) := by decide +kernel
theorem dX5_pinned_94 : decode cX5_pinned 94 = .ok (.invokestatic 139, 3) := by decide +kernel
theorem dX5_pinned_97 : decode cX5_pinned 97 = .ok (.ifCond .eq 40, 3) := by decide +kernel
theorem dX5_pinned_100 : decode cX5_pinned 100 = .ok (.aload_n 0, 1) := by decide +kernel
theorem dX5_pinned_101 : decode cX5_pinned 101 = .ok (.iload_n 1, 1) := by decide +kernel
theorem dX5_pinned_102 : decode cX5_pinned 102 = .ok (.iload_n 2, 1) := by decide +kernel
theorem dX5_pinned_103 : decode cX5_pinned 103 = .ok (.iload 7, 2) := by decide +kernel
theorem dX5_pinned_105 : decode cX5_pinned 105 = .ok (.invokestatic 143, 3) := by decide +kernel
theorem dX5_pinned_108 : decode cX5_pinned 108 = .ok (.invokevirtual 209, 3) := by decide +kernel
theorem dX5_pinned_111 : decode cX5_pinned 111 = .ok (.iload_n 3, 1) := by decide +kernel
theorem dX5_pinned_112 : decode cX5_pinned 112 = .ok (.if_icmp .gt 25, 3) := by decide +kernel
theorem dX5_pinned_115 : decode cX5_pinned 115 = .ok (.iload 4, 2) := by decide +kernel
theorem dX5_pinned_117 : decode cX5_pinned 117 = .ok (.ifCond .ne 7, 3) := by decide +kernel
theorem dX5_pinned_120 : decode cX5_pinned 120 = .ok (.iconst 1, 1) := by decide +kernel
theorem dX5_pinned_121 : decode cX5_pinned 121 = .ok (.goto 15, 3) := by decide +kernel
theorem dX5_pinned_124 : decode cX5_pinned 124 = .ok (.iload 4, 2) := by decide +kernel
theorem dX5_pinned_126 : decode cX5_pinned 126 = .ok (.iconst 1, 1) := by decide +kernel
theorem dX5_pinned_127 : decode cX5_pinned 127 = .ok (.if_icmp .ne 8, 3) := by decide +kernel
theorem dX5_pinned_130 : decode cX5_pinned 130 = .ok (.iload 7, 2) := by decide +kernel
theorem dX5_pinned_132 : decode cX5_pinned 132 = .ok (.goto 4, 3) := by decide +kernel
theorem dX5_pinned_135 : decode cX5_pinned 135 = .ok (.iconst (-1), 1) := by decide +kernel
theorem dX5_pinned_136 : decode cX5_pinned 136 = .ok (.ireturn, 1) := by decide +kernel
theorem dX5_pinned_137 : decode cX5_pinned 137 = .ok (.iinc 7 1, 3) := by decide +kernel
theorem dX5_pinned_140 : decode cX5_pinned 140 = .ok (.goto (-57), 3) := by decide +kernel
theorem dX5_pinned_143 : decode cX5_pinned 143 = .ok (.iconst 0, 1) := by decide +kernel
theorem dX5_pinned_144 : decode cX5_pinned 144 = .ok (.istore 7, 2) := by decide +kernel
theorem dX5_pinned_146 : decode cX5_pinned 146 = .ok (.iload 7, 2) := by decide +kernel
theorem dX5_pinned_148 : decode cX5_pinned 148 = .ok (.bipush 48, 2) := by decide +kernel
theorem dX5_pinned_150 : decode cX5_pinned 150 = .ok (.if_icmp .ge 92, 3) := by decide +kernel
theorem dX5_pinned_153 : decode cX5_pinned 153 = .ok (.iload 7, 2) := by decide +kernel
theorem dX5_pinned_155 : decode cX5_pinned 155 = .ok (.iconst 1, 1) := by decide +kernel
theorem dX5_pinned_156 : decode cX5_pinned 156 = .ok (.iadd, 1) := by decide +kernel
theorem dX5_pinned_157 : decode cX5_pinned 157 = .ok (.istore 8, 2) := by decide +kernel
theorem dX5_pinned_159 : decode cX5_pinned 159 = .ok (.iload 8, 2) := by decide +kernel
theorem dX5_pinned_161 : decode cX5_pinned 161 = .ok (.bipush 48, 2) := by decide +kernel
theorem dX5_pinned_163 : decode cX5_pinned 163 = .ok (.if_icmp .ge 73, 3) := by decide +kernel
theorem dX5_pinned_166 : decode cX5_pinned 166 = .ok (.lload 5, 2) := by decide +kernel
theorem dX5_pinned_168 : decode cX5_pinned 168 = .ok (.iload 7, 2) := by decide +kernel
theorem dX5_pinned_170 : decode cX5_pinned 170 = .ok (.invokestatic 139, 3) := by decide +kernel
theorem dX5_pinned_173 : decode cX5_pinned 173 = .ok (.ifCond .eq 57, 3) := by decide +kernel
theorem dX5_pinned_176 : decode cX5_pinned 176 = .ok (.lload 5, 2) := by decide +kernel
theorem dX5_pinned_178 : decode cX5_pinned 178 = .ok (.iload 8, 2) := by decide +kernel
theorem dX5_pinned_180 : decode cX5_pinned 180 = .ok (.invokestatic 139, 3) := by decide +kernel
theorem dX5_pinned_183 : decode cX5_pinned 183 = .ok (.ifCond .eq 47, 3) := by decide +kernel
theorem dX5_pinned_186 : decode cX5_pinned 186 = .ok (.aload_n 0, 1) := by decide +kernel
theorem dX5_pinned_187 : decode cX5_pinned 187 = .ok (.iload_n 1, 1) := by decide +kernel
theorem dX5_pinned_188 : decode cX5_pinned 188 = .ok (.iload_n 2, 1) := by decide +kernel
theorem dX5_pinned_189 : decode cX5_pinned 189 = .ok (.iload 7, 2) := by decide +kernel
theorem dX5_pinned_191 : decode cX5_pinned 191 = .ok (.invokestatic 143, 3) := by decide +kernel
theorem dX5_pinned_194 : decode cX5_pinned 194 = .ok (.iload 8, 2) := by decide +kernel
theorem dX5_pinned_196 : decode cX5_pinned 196 = .ok (.invokestatic 143, 3) := by decide +kernel
theorem dX5_pinned_199 : decode cX5_pinned 199 = .ok (.lor, 1) := by decide +kernel
theorem dX5_pinned_200 : decode cX5_pinned 200 = .ok (.invokevirtual 209, 3) := by decide +kernel
theorem dX5_pinned_203 : decode cX5_pinned 203 = .ok (.iload_n 3, 1) := by decide +kernel
theorem dX5_pinned_204 : decode cX5_pinned 204 = .ok (.if_icmp .gt 26, 3) := by decide +kernel
theorem dX5_pinned_207 : decode cX5_pinned 207 = .ok (.iload 4, 2) := by decide +kernel
theorem dX5_pinned_209 : decode cX5_pinned 209 = .ok (.ifCond .ne 7, 3) := by decide +kernel
theorem dX5_pinned_212 : decode cX5_pinned 212 = .ok (.iconst 2, 1) := by decide +kernel
theorem dX5_pinned_213 : decode cX5_pinned 213 = .ok (.goto 16, 3) := by decide +kernel
theorem dX5_pinned_216 : decode cX5_pinned 216 = .ok (.iload 4, 2) := by decide +kernel
theorem dX5_pinned_218 : decode cX5_pinned 218 = .ok (.iconst 1, 1) := by decide +kernel
theorem dX5_pinned_219 : decode cX5_pinned 219 = .ok (.if_icmp .ne 8, 3) := by decide +kernel
theorem dX5_pinned_222 : decode cX5_pinned 222 = .ok (.iload 7, 2) := by decide +kernel
theorem dX5_pinned_224 : decode cX5_pinned 224 = .ok (.goto 5, 3) := by decide +kernel
theorem dX5_pinned_227 : decode cX5_pinned 227 = .ok (.iload 8, 2) := by decide +kernel
theorem dX5_pinned_229 : decode cX5_pinned 229 = .ok (.ireturn, 1) := by decide +kernel
theorem dX5_pinned_230 : decode cX5_pinned 230 = .ok (.iinc 8 1, 3) := by decide +kernel
theorem dX5_pinned_233 : decode cX5_pinned 233 = .ok (.goto (-74), 3) := by decide +kernel
theorem dX5_pinned_236 : decode cX5_pinned 236 = .ok (.iinc 7 1, 3) := by decide +kernel
theorem dX5_pinned_239 : decode cX5_pinned 239 = .ok (.goto (-93), 3) := by decide +kernel
theorem dX5_pinned_242 : decode cX5_pinned 242 = .ok (.iconst (-1), 1) := by decide +kernel
theorem dX5_pinned_243 : decode cX5_pinned 243 = .ok (.ireturn, 1) := by decide +kernel
theorem dX5_mending_0 : decode cX5_mending 0 = .ok (.iload_n 1, 1) := by decide +kernel
theorem dX5_mending_1 : decode cX5_mending 1 = .ok (.invokestatic 101, 3) := by decide +kernel
theorem dX5_mending_4 : decode cX5_mending 4 = .ok (.ifCond .ne 6, 3) := by decide +kernel
theorem dX5_mending_7 : decode cX5_mending 7 = .ok (.bipush (-5), 2) := by decide +kernel
theorem dX5_mending_9 : decode cX5_mending 9 = .ok (.ireturn, 1) := by decide +kernel
theorem dX5_mending_10 : decode cX5_mending 10 = .ok (.iload_n 2, 1) := by decide +kernel
theorem dX5_mending_11 : decode cX5_mending 11 = .ok (.invokestatic 104, 3) := by decide +kernel
theorem dX5_mending_14 : decode cX5_mending 14 = .ok (.ifCond .eq 12, 3) := by decide +kernel
theorem dX5_mending_17 : decode cX5_mending 17 = .ok (.iload_n 3, 1) := by decide +kernel
theorem dX5_mending_18 : decode cX5_mending 18 = .ok (.iconst 0, 1) := by decide +kernel
theorem dX5_mending_19 : decode cX5_mending 19 = .ok (.iconst 1, 1) := by decide +kernel
theorem dX5_mending_20 : decode cX5_mending 20 = .ok (.invokestatic 97, 3) := by decide +kernel
theorem dX5_mending_23 : decode cX5_mending 23 = .ok (.ifCond .ne 6, 3) := by decide +kernel
theorem dX5_mending_26 : decode cX5_mending 26 = .ok (.bipush (-7), 2) := by decide +kernel
theorem dX5_mending_28 : decode cX5_mending 28 = .ok (.ireturn, 1) := by decide +kernel
theorem dX5_mending_29 : decode cX5_mending 29 = .ok (.aload_n 0, 1) := by decide +kernel
theorem dX5_mending_30 : decode cX5_mending 30 = .ok (.iload_n 1, 1) := by decide +kernel
theorem dX5_mending_31 : decode cX5_mending 31 = .ok (.iload_n 2, 1) := by decide +kernel
theorem dX5_mending_32 : decode cX5_mending 32 = .ok (.invokevirtual 163, 3) := by decide +kernel
theorem dX5_mending_35 : decode cX5_mending 35 = .ok (.pop, 1) := by decide +kernel
theorem dX5_mending_36 : decode cX5_mending 36 = .ok (.aload_n 0, 1) := by decide +kernel
theorem dX5_mending_37 : decode cX5_mending 37 = .ok (.getfield 35, 3) := by decide +kernel
theorem dX5_mending_40 : decode cX5_mending 40 = .ok (.getfield 167, 3) := by decide +kernel
theorem dX5_mending_43 : decode cX5_mending 43 = .ok (.lconst 0, 1) := by decide +kernel
theorem dX5_mending_44 : decode cX5_mending 44 = .ok (.lcmp, 1) := by decide +kernel
theorem dX5_mending_45 : decode cX5_mending 45 = .ok (.ifCond .ne 13, 3) := by decide +kernel
theorem dX5_mending_48 : decode cX5_mending 48 = .ok (.iload_n 3, 1) := by decide +kernel
theorem dX5_mending_49 : decode cX5_mending 49 = .ok (.ifCond .ne 7, 3) := by decide +kernel
theorem dX5_mending_52 : decode cX5_mending 52 = .ok (.iconst (-1), 1) := by decide +kernel
theorem dX5_mending_53 : decode cX5_mending 53 = .ok (.goto 4, 3) := by decide +kernel
theorem dX5_mending_56 : decode cX5_mending 56 = .ok (.iconst 0, 1) := by decide +kernel
theorem dX5_mending_57 : decode cX5_mending 57 = .ok (.ireturn, 1) := by decide +kernel
theorem dX5_mending_58 : decode cX5_mending 58 = .ok (.iconst 0, 1) := by decide +kernel
theorem dX5_mending_59 : decode cX5_mending 59 = .ok (.istore 4, 2) := by decide +kernel
theorem dX5_mending_61 : decode cX5_mending 61 = .ok (.aload_n 0, 1) := by decide +kernel
theorem dX5_mending_62 : decode cX5_mending 62 = .ok (.iconst 1, 1) := by decide +kernel
theorem dX5_mending_63 : decode cX5_mending 63 = .ok (.invokevirtual 173, 3) := by decide +kernel
theorem dX5_mending_66 : decode cX5_mending 66 = .ok (.istore 5, 2) := by decide +kernel
theorem dX5_mending_68 : decode cX5_mending 68 = .ok (.bipush 24, 2) := by decide +kernel
theorem dX5_mending_70 : decode cX5_mending 70 = .ok (.bipush 8, 2) := by decide +kernel
theorem dX5_mending_72 : decode cX5_mending 72 = .ok (.aload_n 0, 1) := by decide +kernel
theorem dX5_mending_73 : decode cX5_mending 73 = .ok (.invokevirtual 170, 3) := by decide +kernel
theorem dX5_mending_76 : decode cX5_mending 76 = .ok (.isub, 1) := by decide +kernel
theorem dX5_mending_77 : decode cX5_mending 77 = .ok (.imul, 1) := by decide +kernel
theorem dX5_mending_78 : decode cX5_mending 78 = .ok (.istore 6, 2) := by decide +kernel
theorem dX5_mending_80 : decode cX5_mending 80 = .ok (.iload 6, 2) := by decide +kernel
theorem dX5_mending_82 : decode cX5_mending 82 = .ok (.iload 5, 2) := by decide +kernel
theorem dX5_mending_84 : decode cX5_mending 84 = .ok (.if_icmp .ge 10, 3) := by decide +kernel
theorem dX5_mending_87 : decode cX5_mending 87 = .ok (.iconst 1, 1) := by decide +kernel
theorem dX5_mending_88 : decode cX5_mending 88 = .ok (.istore 4, 2) := by decide +kernel
theorem dX5_mending_90 : decode cX5_mending 90 = .ok (.iload 6, 2) := by decide +kernel
theorem dX5_mending_92 : decode cX5_mending 92 = .ok (.istore 5, 2) := by decide +kernel
theorem dX5_mending_94 : decode cX5_mending 94 = .ok (.bipush 50, 2) := by decide +kernel
theorem dX5_mending_96 : decode cX5_mending 96 = .ok (.aload_n 0, 1) := by decide +kernel
theorem dX5_mending_97 : decode cX5_mending 97 = .ok (.getfield 35, 3) := by decide +kernel
theorem dX5_mending_100 : decode cX5_mending 100 = .ok (.getfield 167, 3) := by decide +kernel
theorem dX5_mending_103 : decode cX5_mending 103 = .ok (.invokestatic 74, 3) := by decide +kernel
theorem dX5_mending_106 : decode cX5_mending 106 = .ok (.iadd, 1) := by decide +kernel
theorem dX5_mending_107 : decode cX5_mending 107 = .ok (.istore 7, 2) := by decide +kernel
theorem dX5_mending_109 : decode cX5_mending 109 = .ok (.iload 7, 2) := by decide +kernel
theorem dX5_mending_111 : decode cX5_mending 111 = .ok (.iload 5, 2) := by decide +kernel
theorem dX5_mending_113 : decode cX5_mending 113 = .ok (.if_icmp .ge 10, 3) := by decide +kernel
theorem dX5_mending_116 : decode cX5_mending 116 = .ok (.iconst 2, 1) := by decide +kernel
theorem dX5_mending_117 : decode cX5_mending 117 = .ok (.istore 4, 2) := by decide +kernel
theorem dX5_mending_119 : decode cX5_mending 119 = .ok (.iload 7, 2) := by decide +kernel
theorem dX5_mending_121 : decode cX5_mending 121 = .ok (.istore 5, 2) := by decide +kernel
theorem dX5_mending_123 : decode cX5_mending 123 = .ok (.iload_n 3, 1) := by decide +kernel
theorem dX5_mending_124 : decode cX5_mending 124 = .ok (.ifCond .ne 8, 3) := by decide +kernel
theorem dX5_mending_127 : decode cX5_mending 127 = .ok (.iload 4, 2) := by decide +kernel
theorem dX5_mending_129 : decode cX5_mending 129 = .ok (.goto 5, 3) := by decide +kernel
theorem dX5_mending_132 : decode cX5_mending 132 = .ok (.iload 5, 2) := by decide +kernel
theorem dX5_mending_134 : decode cX5_mending 134 = .ok (.ireturn, 1) := by decide +kernel
theorem dX5_goesThroughOwn_0 : decode cX5_goesThroughOwn 0 = .ok (.iload_n 0, 1) := by decide +kernel
theorem dX5_goesThroughOwn_1 : decode cX5_goesThroughOwn 1 = .ok (.iconst 2, 1) := by decide +kernel
theorem dX5_goesThroughOwn_2 : decode cX5_goesThroughOwn 2 = .ok (.if_icmp .eq 12, 3) := by decide +kernel
theorem dX5_goesThroughOwn_5 : decode cX5_goesThroughOwn 5 = .ok (.iload_n 0, 1) := by decide +kernel
theorem dX5_goesThroughOwn_6 : decode cX5_goesThroughOwn 6 = .ok (.iconst 4, 1) := by decide +kernel
theorem dX5_goesThroughOwn_7 : decode cX5_goesThroughOwn 7 = .ok (.if_icmp .eq 7, 3) := by decide +kernel
theorem dX5_goesThroughOwn_10 : decode cX5_goesThroughOwn 10 = .ok (.iconst 1, 1) := by decide +kernel
theorem dX5_goesThroughOwn_11 : decode cX5_goesThroughOwn 11 = .ok (.goto 4, 3) := by decide +kernel
theorem dX5_goesThroughOwn_14 : decode cX5_goesThroughOwn 14 = .ok (.iconst 0, 1) := by decide +kernel
theorem dX5_goesThroughOwn_15 : decode cX5_goesThroughOwn 15 = .ok (.ireturn, 1) := by decide +kernel
theorem dX5_goesThroughNext_0 : decode cX5_goesThroughNext 0 = .ok (.iload_n 0, 1) := by decide +kernel
theorem dX5_goesThroughNext_1 : decode cX5_goesThroughNext 1 = .ok (.iconst 2, 1) := by decide +kernel
theorem dX5_goesThroughNext_2 : decode cX5_goesThroughNext 2 = .ok (.if_icmp .eq 8, 3) := by decide +kernel
theorem dX5_goesThroughNext_5 : decode cX5_goesThroughNext 5 = .ok (.iload_n 0, 1) := by decide +kernel
theorem dX5_goesThroughNext_6 : decode cX5_goesThroughNext 6 = .ok (.iconst 3, 1) := by decide +kernel
theorem dX5_goesThroughNext_7 : decode cX5_goesThroughNext 7 = .ok (.if_icmp .ne 7, 3) := by decide +kernel
theorem dX5_goesThroughNext_10 : decode cX5_goesThroughNext 10 = .ok (.iconst 1, 1) := by decide +kernel
theorem dX5_goesThroughNext_11 : decode cX5_goesThroughNext 11 = .ok (.goto 4, 3) := by decide +kernel
theorem dX5_goesThroughNext_14 : decode cX5_goesThroughNext 14 = .ok (.iconst 0, 1) := by decide +kernel
theorem dX5_goesThroughNext_15 : decode cX5_goesThroughNext 15 = .ok (.ireturn, 1) := by decide +kernel
theorem dX5_faceOf_0 : decode cX5_faceOf 0 = .ok (.iload_n 0, 1) := by decide +kernel
theorem dX5_faceOf_1 : decode cX5_faceOf 1 = .ok (.iconst 1, 1) := by decide +kernel
theorem dX5_faceOf_2 : decode cX5_faceOf 2 = .ok (.if_icmp .ne 7, 3) := by decide +kernel
theorem dX5_faceOf_5 : decode cX5_faceOf 5 = .ok (.iconst 1, 1) := by decide +kernel
theorem dX5_faceOf_6 : decode cX5_faceOf 6 = .ok (.goto 4, 3) := by decide +kernel
theorem dX5_faceOf_9 : decode cX5_faceOf 9 = .ok (.iconst 0, 1) := by decide +kernel
theorem dX5_faceOf_10 : decode cX5_faceOf 10 = .ok (.ireturn, 1) := by decide +kernel
theorem dX5_rubOf_0 : decode cX5_rubOf 0 = .ok (.iload_n 0, 1) := by decide +kernel
theorem dX5_rubOf_1 : decode cX5_rubOf 1 = .ok (.tableswitch 43 1 5 #[35, 43, 39, 43, 35], 35) := by decide +kernel
theorem dX5_rubOf_36 : decode cX5_rubOf 36 = .ok (.iload_n 1, 1) := by decide +kernel
theorem dX5_rubOf_37 : decode cX5_rubOf 37 = .ok (.iload_n 2, 1) := by decide +kernel
theorem dX5_rubOf_38 : decode cX5_rubOf 38 = .ok (.iadd, 1) := by decide +kernel
theorem dX5_rubOf_39 : decode cX5_rubOf 39 = .ok (.ireturn, 1) := by decide +kernel
theorem dX5_rubOf_40 : decode cX5_rubOf 40 = .ok (.iconst 2, 1) := by decide +kernel
theorem dX5_rubOf_41 : decode cX5_rubOf 41 = .ok (.iload_n 1, 1) := by decide +kernel
theorem dX5_rubOf_42 : decode cX5_rubOf 42 = .ok (.imul, 1) := by decide +kernel
theorem dX5_rubOf_43 : decode cX5_rubOf 43 = .ok (.ireturn, 1) := by decide +kernel
theorem dX5_rubOf_44 : decode cX5_rubOf 44 = .ok (.iload_n 1, 1) := by decide +kernel
theorem dX5_rubOf_45 : decode cX5_rubOf 45 = .ok (.ireturn, 1) := by decide +kernel
theorem dX5_within_0 : decode cX5_within 0 = .ok (.iload_n 0, 1) := by decide +kernel
theorem dX5_within_1 : decode cX5_within 1 = .ok (.iload_n 1, 1) := by decide +kernel
theorem dX5_within_2 : decode cX5_within 2 = .ok (.if_icmp .lt 12, 3) := by decide +kernel
theorem dX5_within_5 : decode cX5_within 5 = .ok (.iload_n 0, 1) := by decide +kernel
theorem dX5_within_6 : decode cX5_within 6 = .ok (.iload_n 2, 1) := by decide +kernel
theorem dX5_within_7 : decode cX5_within 7 = .ok (.if_icmp .gt 7, 3) := by decide +kernel
theorem dX5_within_10 : decode cX5_within 10 = .ok (.iconst 1, 1) := by decide +kernel
theorem dX5_within_11 : decode cX5_within 11 = .ok (.goto 4, 3) := by decide +kernel
theorem dX5_within_14 : decode cX5_within 14 = .ok (.iconst 0, 1) := by decide +kernel
theorem dX5_within_15 : decode cX5_within 15 = .ok (.ireturn, 1) := by decide +kernel
theorem dX5_isLoop_0 : decode cX5_isLoop 0 = .ok (.iload_n 0, 1) := by decide +kernel
theorem dX5_isLoop_1 : decode cX5_isLoop 1 = .ok (.iconst 0, 1) := by decide +kernel
theorem dX5_isLoop_2 : decode cX5_isLoop 2 = .ok (.bipush 47, 2) := by decide +kernel
theorem dX5_isLoop_4 : decode cX5_isLoop 4 = .ok (.invokestatic 97, 3) := by decide +kernel
theorem dX5_isLoop_7 : decode cX5_isLoop 7 = .ok (.ireturn, 1) := by decide +kernel
theorem dX5_isPull_0 : decode cX5_isPull 0 = .ok (.iload_n 0, 1) := by decide +kernel
theorem dX5_isPull_1 : decode cX5_isPull 1 = .ok (.iconst 0, 1) := by decide +kernel
theorem dX5_isPull_2 : decode cX5_isPull 2 = .ok (.bipush 99, 2) := by decide +kernel
theorem dX5_isPull_4 : decode cX5_isPull 4 = .ok (.invokestatic 97, 3) := by decide +kernel
theorem dX5_isPull_7 : decode cX5_isPull 7 = .ok (.ireturn, 1) := by decide +kernel
theorem dX5_isByte_0 : decode cX5_isByte 0 = .ok (.iload_n 0, 1) := by decide +kernel
theorem dX5_isByte_1 : decode cX5_isByte 1 = .ok (.iconst 0, 1) := by decide +kernel
theorem dX5_isByte_2 : decode cX5_isByte 2 = .ok (.sipush 255, 3) := by decide +kernel
theorem dX5_isByte_5 : decode cX5_isByte 5 = .ok (.invokestatic 97, 3) := by decide +kernel
theorem dX5_isByte_8 : decode cX5_isByte 8 = .ok (.ireturn, 1) := by decide +kernel
theorem dX5_isKnit_0 : decode cX5_isKnit 0 = .ok (.iload_n 0, 1) := by decide +kernel
theorem dX5_isKnit_1 : decode cX5_isKnit 1 = .ok (.iconst 0, 1) := by decide +kernel
theorem dX5_isKnit_2 : decode cX5_isKnit 2 = .ok (.iconst 5, 1) := by decide +kernel
theorem dX5_isKnit_3 : decode cX5_isKnit 3 = .ok (.invokestatic 97, 3) := by decide +kernel
theorem dX5_isKnit_6 : decode cX5_isKnit 6 = .ok (.ifCond .eq 17, 3) := by decide +kernel
theorem dX5_isKnit_9 : decode cX5_isKnit 9 = .ok (.iload_n 1, 1) := by decide +kernel
theorem dX5_isKnit_10 : decode cX5_isKnit 10 = .ok (.iconst 0, 1) := by decide +kernel
theorem dX5_isKnit_11 : decode cX5_isKnit 11 = .ok (.bipush 9, 2) := by decide +kernel
theorem dX5_isKnit_13 : decode cX5_isKnit 13 = .ok (.invokestatic 97, 3) := by decide +kernel
theorem dX5_isKnit_16 : decode cX5_isKnit 16 = .ok (.ifCond .eq 7, 3) := by decide +kernel
theorem dX5_isKnit_19 : decode cX5_isKnit 19 = .ok (.iconst 1, 1) := by decide +kernel
theorem dX5_isKnit_20 : decode cX5_isKnit 20 = .ok (.goto 4, 3) := by decide +kernel
theorem dX5_isKnit_23 : decode cX5_isKnit 23 = .ok (.iconst 0, 1) := by decide +kernel
theorem dX5_isKnit_24 : decode cX5_isKnit 24 = .ok (.ireturn, 1) := by decide +kernel
theorem dX5_bit_0 : decode cX5_bit 0 = .ok (.lconst 1, 1) := by decide +kernel
theorem dX5_bit_1 : decode cX5_bit 1 = .ok (.iload_n 0, 1) := by decide +kernel
theorem dX5_bit_2 : decode cX5_bit 2 = .ok (.lshl, 1) := by decide +kernel
theorem dX5_bit_3 : decode cX5_bit 3 = .ok (.lreturn, 1) := by decide +kernel
theorem dX5_hasBit_0 : decode cX5_hasBit 0 = .ok (.lload_n 0, 1) := by decide +kernel
theorem dX5_hasBit_1 : decode cX5_hasBit 1 = .ok (.iload_n 2, 1) := by decide +kernel
theorem dX5_hasBit_2 : decode cX5_hasBit 2 = .ok (.lshr, 1) := by decide +kernel
theorem dX5_hasBit_3 : decode cX5_hasBit 3 = .ok (.lconst 1, 1) := by decide +kernel
theorem dX5_hasBit_4 : decode cX5_hasBit 4 = .ok (.land, 1) := by decide +kernel
theorem dX5_hasBit_5 : decode cX5_hasBit 5 = .ok (.lconst 0, 1) := by decide +kernel
theorem dX5_hasBit_6 : decode cX5_hasBit 6 = .ok (.lcmp, 1) := by decide +kernel
theorem dX5_hasBit_7 : decode cX5_hasBit 7 = .ok (.ifCond .eq 7, 3) := by decide +kernel
theorem dX5_hasBit_10 : decode cX5_hasBit 10 = .ok (.iconst 1, 1) := by decide +kernel
theorem dX5_hasBit_11 : decode cX5_hasBit 11 = .ok (.goto 4, 3) := by decide +kernel
theorem dX5_hasBit_14 : decode cX5_hasBit 14 = .ok (.iconst 0, 1) := by decide +kernel
theorem dX5_hasBit_15 : decode cX5_hasBit 15 = .ok (.ireturn, 1) := by decide +kernel
theorem dX5_bounded_0 : decode cX5_bounded 0 = .ok (.iconst 0, 1) := by decide +kernel
theorem dX5_bounded_1 : decode cX5_bounded 1 = .ok (.iload_n 1, 1) := by decide +kernel
theorem dX5_bounded_2 : decode cX5_bounded 2 = .ok (.iload_n 0, 1) := by decide +kernel
theorem dX5_bounded_3 : decode cX5_bounded 3 = .ok (.invokestatic 272, 3) := by decide +kernel
theorem dX5_bounded_6 : decode cX5_bounded 6 = .ok (.invokestatic 277, 3) := by decide +kernel
theorem dX5_bounded_9 : decode cX5_bounded 9 = .ok (.ireturn, 1) := by decide +kernel
theorem dX5_law_0 : decode cX5_law 0 = .ok (.aload_n 0, 1) := by decide +kernel
theorem dX5_law_1 : decode cX5_law 1 = .ok (.getfield 28, 3) := by decide +kernel
theorem dX5_law_4 : decode cX5_law 4 = .ok (.aload_n 0, 1) := by decide +kernel
theorem dX5_law_5 : decode cX5_law 5 = .ok (.getfield 10, 3) := by decide +kernel
theorem dX5_law_8 : decode cX5_law 8 = .ok (.getfield 87, 3) := by decide +kernel
theorem dX5_law_11 : decode cX5_law 11 = .ok (.aaload, 1) := by decide +kernel
theorem dX5_law_12 : decode cX5_law 12 = .ok (.areturn, 1) := by decide +kernel
theorem dX5_readTape_0 : decode cX5_readTape 0 = .ok (.aload_n 0, 1) := by decide +kernel
theorem dX5_readTape_1 : decode cX5_readTape 1 = .ok (.getfield 83, 3) := by decide +kernel
theorem dX5_readTape_4 : decode cX5_readTape 4 = .ok (.bipush 6, 2) := by decide +kernel
theorem dX5_readTape_6 : decode cX5_readTape 6 = .ok (.if_icmp .lt 6, 3) := by decide +kernel
theorem dX5_readTape_9 : decode cX5_readTape 9 = .ok (.bipush (-4), 2) := by decide +kernel
theorem dX5_readTape_11 : decode cX5_readTape 11 = .ok (.ireturn, 1) := by decide +kernel
theorem dX5_readTape_12 : decode cX5_readTape 12 = .ok (.aload_n 0, 1) := by decide +kernel
theorem dX5_readTape_13 : decode cX5_readTape 13 = .ok (.getfield 22, 3) := by decide +kernel
theorem dX5_readTape_16 : decode cX5_readTape 16 = .ok (.aload_n 0, 1) := by decide +kernel
theorem dX5_readTape_17 : decode cX5_readTape 17 = .ok (.getfield 28, 3) := by decide +kernel
theorem dX5_readTape_20 : decode cX5_readTape 20 = .ok (.aload_n 0, 1) := by decide +kernel
theorem dX5_readTape_21 : decode cX5_readTape 21 = .ok (.getfield 83, 3) := by decide +kernel
theorem dX5_readTape_24 : decode cX5_readTape 24 = .ok (.aaload, 1) := by decide +kernel
theorem dX5_readTape_25 : decode cX5_readTape 25 = .ok (.invokevirtual 280, 3) := by decide +kernel
theorem dX5_readTape_28 : decode cX5_readTape 28 = .ok (.istore_n 1, 1) := by decide +kernel
theorem dX5_readTape_29 : decode cX5_readTape 29 = .ok (.aload_n 0, 1) := by decide +kernel
theorem dX5_readTape_30 : decode cX5_readTape 30 = .ok (.getfield 22, 3) := by decide +kernel
theorem dX5_readTape_33 : decode cX5_readTape 33 = .ok (.iconst 0, 1) := by decide +kernel
theorem dX5_readTape_34 : decode cX5_readTape 34 = .ok (.putfield 90, 3) := by decide +kernel
theorem dX5_readTape_37 : decode cX5_readTape 37 = .ok (.iload_n 1, 1) := by decide +kernel
theorem dX5_readTape_38 : decode cX5_readTape 38 = .ok (.ifCond .lt 8, 3) := by decide +kernel
theorem dX5_readTape_41 : decode cX5_readTape 41 = .ok (.bipush (-100), 2) := by decide +kernel
theorem dX5_readTape_43 : decode cX5_readTape 43 = .ok (.iload_n 1, 1) := by decide +kernel
theorem dX5_readTape_44 : decode cX5_readTape 44 = .ok (.isub, 1) := by decide +kernel
theorem dX5_readTape_45 : decode cX5_readTape 45 = .ok (.ireturn, 1) := by decide +kernel
theorem dX5_readTape_46 : decode cX5_readTape 46 = .ok (.aload_n 0, 1) := by decide +kernel
theorem dX5_readTape_47 : decode cX5_readTape 47 = .ok (.dup, 1) := by decide +kernel
theorem dX5_readTape_48 : decode cX5_readTape 48 = .ok (.getfield 83, 3) := by decide +kernel
theorem dX5_readTape_51 : decode cX5_readTape 51 = .ok (.dup_x1, 1) := by decide +kernel
theorem dX5_readTape_52 : decode cX5_readTape 52 = .ok (.iconst 1, 1) := by decide +kernel
theorem dX5_readTape_53 : decode cX5_readTape 53 = .ok (.iadd, 1) := by decide +kernel
theorem dX5_readTape_54 : decode cX5_readTape 54 = .ok (.putfield 83, 3) := by decide +kernel
theorem dX5_readTape_57 : decode cX5_readTape 57 = .ok (.ireturn, 1) := by decide +kernel
theorem dX5_drop_0 : decode cX5_drop 0 = .ok (.aload_n 0, 1) := by decide +kernel
theorem dX5_drop_1 : decode cX5_drop 1 = .ok (.getfield 35, 3) := by decide +kernel
theorem dX5_drop_4 : decode cX5_drop 4 = .ok (.aload_n 0, 1) := by decide +kernel
theorem dX5_drop_5 : decode cX5_drop 5 = .ok (.getfield 10, 3) := by decide +kernel
theorem dX5_drop_8 : decode cX5_drop 8 = .ok (.aload_n 0, 1) := by decide +kernel
theorem dX5_drop_9 : decode cX5_drop 9 = .ok (.invokevirtual 107, 3) := by decide +kernel
theorem dX5_drop_12 : decode cX5_drop 12 = .ok (.iload_n 1, 1) := by decide +kernel
theorem dX5_drop_13 : decode cX5_drop 13 = .ok (.invokestatic 143, 3) := by decide +kernel
theorem dX5_drop_16 : decode cX5_drop 16 = .ok (.lconst 0, 1) := by decide +kernel
theorem dX5_drop_17 : decode cX5_drop 17 = .ok (.iload_n 2, 1) := by decide +kernel
theorem dX5_drop_18 : decode cX5_drop 18 = .ok (.invokevirtual 182, 3) := by decide +kernel
theorem dX5_drop_21 : decode cX5_drop 21 = .ok (.ireturn, 1) := by decide +kernel
theorem dX5_dropPinned_0 : decode cX5_dropPinned 0 = .ok (.aload_n 0, 1) := by decide +kernel
theorem dX5_dropPinned_1 : decode cX5_dropPinned 1 = .ok (.getfield 35, 3) := by decide +kernel
theorem dX5_dropPinned_4 : decode cX5_dropPinned 4 = .ok (.aload_n 0, 1) := by decide +kernel
theorem dX5_dropPinned_5 : decode cX5_dropPinned 5 = .ok (.getfield 10, 3) := by decide +kernel
theorem dX5_dropPinned_8 : decode cX5_dropPinned 8 = .ok (.aload_n 0, 1) := by decide +kernel
theorem dX5_dropPinned_9 : decode cX5_dropPinned 9 = .ok (.invokevirtual 107, 3) := by decide +kernel
theorem dX5_dropPinned_12 : decode cX5_dropPinned 12 = .ok (.iload_n 1, 1) := by decide +kernel
theorem dX5_dropPinned_13 : decode cX5_dropPinned 13 = .ok (.invokestatic 143, 3) := by decide +kernel
theorem dX5_dropPinned_16 : decode cX5_dropPinned 16 = .ok (.lload_n 3, 1) := by decide +kernel
theorem dX5_dropPinned_17 : decode cX5_dropPinned 17 = .ok (.iload_n 2, 1) := by decide +kernel
theorem dX5_dropPinned_18 : decode cX5_dropPinned 18 = .ok (.invokevirtual 182, 3) := by decide +kernel
theorem dX5_dropPinned_21 : decode cX5_dropPinned 21 = .ok (.ireturn, 1) := by decide +kernel
theorem dX5_lowestRow_0 : decode cX5_lowestRow 0 = .ok (.aload_n 0, 1) := by decide +kernel
theorem dX5_lowestRow_1 : decode cX5_lowestRow 1 = .ok (.getfield 35, 3) := by decide +kernel
theorem dX5_lowestRow_4 : decode cX5_lowestRow 4 = .ok (.getfield 167, 3) := by decide +kernel
theorem dX5_lowestRow_7 : decode cX5_lowestRow 7 = .ok (.lconst 0, 1) := by decide +kernel
theorem dX5_lowestRow_8 : decode cX5_lowestRow 8 = .ok (.lcmp, 1) := by decide +kernel
theorem dX5_lowestRow_9 : decode cX5_lowestRow 9 = .ok (.ifCond .ne 7, 3) := by decide +kernel
theorem dX5_lowestRow_12 : decode cX5_lowestRow 12 = .ok (.iconst (-1), 1) := by decide +kernel
theorem dX5_lowestRow_13 : decode cX5_lowestRow 13 = .ok (.goto 16, 3) := by decide +kernel
theorem dX5_lowestRow_16 : decode cX5_lowestRow 16 = .ok (.aload_n 0, 1) := by decide +kernel
theorem dX5_lowestRow_17 : decode cX5_lowestRow 17 = .ok (.getfield 35, 3) := by decide +kernel
theorem dX5_lowestRow_20 : decode cX5_lowestRow 20 = .ok (.getfield 167, 3) := by decide +kernel
theorem dX5_lowestRow_23 : decode cX5_lowestRow 23 = .ok (.invokestatic 284, 3) := by decide +kernel
theorem dX5_lowestRow_26 : decode cX5_lowestRow 26 = .ok (.bipush 6, 2) := by decide +kernel
theorem dX5_lowestRow_28 : decode cX5_lowestRow 28 = .ok (.idiv, 1) := by decide +kernel
theorem dX5_lowestRow_29 : decode cX5_lowestRow 29 = .ok (.ireturn, 1) := by decide +kernel
theorem dX5_together_0 : decode cX5_together 0 = .ok (.iconst 0, 1) := by decide +kernel
theorem dX5_together_1 : decode cX5_together 1 = .ok (.istore_n 2, 1) := by decide +kernel
theorem dX5_together_2 : decode cX5_together 2 = .ok (.iconst 0, 1) := by decide +kernel
theorem dX5_together_3 : decode cX5_together 3 = .ok (.istore_n 3, 1) := by decide +kernel
theorem dX5_together_4 : decode cX5_together 4 = .ok (.iload_n 3, 1) := by decide +kernel
theorem dX5_together_5 : decode cX5_together 5 = .ok (.bipush 48, 2) := by decide +kernel
theorem dX5_together_7 : decode cX5_together 7 = .ok (.if_icmp .ge 48, 3) := by decide +kernel
theorem dX5_together_10 : decode cX5_together 10 = .ok (.aload_n 0, 1) := by decide +kernel
theorem dX5_together_11 : decode cX5_together 11 = .ok (.getfield 35, 3) := by decide +kernel
theorem dX5_together_14 : decode cX5_together 14 = .ok (.getfield 167, 3) := by decide +kernel
theorem dX5_together_17 : decode cX5_together 17 = .ok (.iload_n 3, 1) := by decide +kernel
theorem dX5_together_18 : decode cX5_together 18 = .ok (.invokestatic 139, 3) := by decide +kernel
theorem dX5_together_21 : decode cX5_together 21 = .ok (.ifCond .eq 28, 3) := by decide +kernel
theorem dX5_together_24 : decode cX5_together 24 = .ok (.iload_n 2, 1) := by decide +kernel
theorem dX5_together_25 : decode cX5_together 25 = .ok (.aload_n 0, 1) := by decide +kernel
theorem dX5_together_26 : decode cX5_together 26 = .ok (.invokevirtual 107, 3) := by decide +kernel
theorem dX5_together_29 : decode cX5_together 29 = .ok (.iload_n 1, 1) := by decide +kernel
theorem dX5_together_30 : decode cX5_together 30 = .ok (.aload_n 0, 1) := by decide +kernel
theorem dX5_together_31 : decode cX5_together 31 = .ok (.getfield 10, 3) := by decide +kernel
theorem dX5_together_34 : decode cX5_together 34 = .ok (.iload_n 3, 1) := by decide +kernel
theorem dX5_together_35 : decode cX5_together 35 = .ok (.aload_n 0, 1) := by decide +kernel
theorem dX5_together_36 : decode cX5_together 36 = .ok (.getfield 35, 3) := by decide +kernel
theorem dX5_together_39 : decode cX5_together 39 = .ok (.getfield 179, 3) := by decide +kernel
theorem dX5_together_42 : decode cX5_together 42 = .ok (.iload_n 3, 1) := by decide +kernel
theorem dX5_together_43 : decode cX5_together 43 = .ok (.iaload, 1) := by decide +kernel
theorem dX5_together_44 : decode cX5_together 44 = .ok (.invokevirtual 110, 3) := by decide +kernel
theorem dX5_together_47 : decode cX5_together 47 = .ok (.iadd, 1) := by decide +kernel
theorem dX5_together_48 : decode cX5_together 48 = .ok (.istore_n 2, 1) := by decide +kernel
theorem dX5_together_49 : decode cX5_together 49 = .ok (.iinc 3 1, 3) := by decide +kernel
theorem dX5_together_52 : decode cX5_together 52 = .ok (.goto (-48), 3) := by decide +kernel
theorem dX5_together_55 : decode cX5_together 55 = .ok (.iload_n 2, 1) := by decide +kernel
theorem dX5_together_56 : decode cX5_together 56 = .ok (.ireturn, 1) := by decide +kernel
