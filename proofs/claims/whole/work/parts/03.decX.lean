theorem dX0_init_0 : decode cX0_init 0 = .ok (.aload_n 0, 1) := by decide +kernel
theorem dX0_init_1 : decode cX0_init 1 = .ok (.invokespecial 3, 3) := by decide +kernel
theorem dX0_init_4 : decode cX0_init 4 = .ok (.aload_n 0, 1) := by decide +kernel
theorem dX0_init_5 : decode cX0_init 5 = .ok (.bipush 48, 2) := by decide +kernel
theorem dX0_init_7 : decode cX0_init 7 = .ok (.newarray .int, 2) := by decide +kernel
theorem dX0_init_9 : decode cX0_init 9 = .ok (.putfield 9, 3) := by decide +kernel
theorem dX0_init_12 : decode cX0_init 12 = .ok (.return_, 1) := by decide +kernel
theorem dX0_runFrom_0 : decode cX0_runFrom 0 = .ok (.aload_n 0, 1) := by decide +kernel
theorem dX0_runFrom_1 : decode cX0_runFrom 1 = .ok (.lconst 0, 1) := by decide +kernel
theorem dX0_runFrom_2 : decode cX0_runFrom 2 = .ok (.putfield 15, 3) := by decide +kernel
theorem dX0_runFrom_5 : decode cX0_runFrom 5 = .ok (.aload_n 0, 1) := by decide +kernel
theorem dX0_runFrom_6 : decode cX0_runFrom 6 = .ok (.lconst 0, 1) := by decide +kernel
theorem dX0_runFrom_7 : decode cX0_runFrom 7 = .ok (.putfield 19, 3) := by decide +kernel
theorem dX0_runFrom_10 : decode cX0_runFrom 10 = .ok (.bipush 47, 2) := by decide +kernel
theorem dX0_runFrom_12 : decode cX0_runFrom 12 = .ok (.istore 8, 2) := by decide +kernel
theorem dX0_runFrom_14 : decode cX0_runFrom 14 = .ok (.iload 8, 2) := by decide +kernel
theorem dX0_runFrom_16 : decode cX0_runFrom 16 = .ok (.ifCond .lt 162, 3) := by decide +kernel
theorem dX0_runFrom_19 : decode cX0_runFrom 19 = .ok (.aload_n 0, 1) := by decide +kernel
theorem dX0_runFrom_20 : decode cX0_runFrom 20 = .ok (.getfield 15, 3) := by decide +kernel
theorem dX0_runFrom_23 : decode cX0_runFrom 23 = .ok (.lconst 0, 1) := by decide +kernel
theorem dX0_runFrom_24 : decode cX0_runFrom 24 = .ok (.lcmp, 1) := by decide +kernel
theorem dX0_runFrom_25 : decode cX0_runFrom 25 = .ok (.ifCond .ne 7, 3) := by decide +kernel
theorem dX0_runFrom_28 : decode cX0_runFrom 28 = .ok (.lconst 0, 1) := by decide +kernel
theorem dX0_runFrom_29 : decode cX0_runFrom 29 = .ok (.goto 9, 3) := by decide +kernel
theorem dX0_runFrom_32 : decode cX0_runFrom 32 = .ok (.aload_n 1, 1) := by decide +kernel
theorem dX0_runFrom_33 : decode cX0_runFrom 33 = .ok (.iload 8, 2) := by decide +kernel
theorem dX0_runFrom_35 : decode cX0_runFrom 35 = .ok (.invokevirtual 22, 3) := by decide +kernel
theorem dX0_runFrom_38 : decode cX0_runFrom 38 = .ok (.lstore 9, 2) := by decide +kernel
theorem dX0_runFrom_40 : decode cX0_runFrom 40 = .ok (.lload 9, 2) := by decide +kernel
theorem dX0_runFrom_42 : decode cX0_runFrom 42 = .ok (.lconst 0, 1) := by decide +kernel
theorem dX0_runFrom_43 : decode cX0_runFrom 43 = .ok (.lcmp, 1) := by decide +kernel
theorem dX0_runFrom_44 : decode cX0_runFrom 44 = .ok (.ifCond .eq 20, 3) := by decide +kernel
theorem dX0_runFrom_47 : decode cX0_runFrom 47 = .ok (.lload 9, 2) := by decide +kernel
theorem dX0_runFrom_49 : decode cX0_runFrom 49 = .ok (.aload_n 0, 1) := by decide +kernel
theorem dX0_runFrom_50 : decode cX0_runFrom 50 = .ok (.getfield 15, 3) := by decide +kernel
theorem dX0_runFrom_53 : decode cX0_runFrom 53 = .ok (.land, 1) := by decide +kernel
theorem dX0_runFrom_54 : decode cX0_runFrom 54 = .ok (.lload 9, 2) := by decide +kernel
theorem dX0_runFrom_56 : decode cX0_runFrom 56 = .ok (.lcmp, 1) := by decide +kernel
theorem dX0_runFrom_57 : decode cX0_runFrom 57 = .ok (.ifCond .ne 7, 3) := by decide +kernel
theorem dX0_runFrom_60 : decode cX0_runFrom 60 = .ok (.iconst 1, 1) := by decide +kernel
theorem dX0_runFrom_61 : decode cX0_runFrom 61 = .ok (.goto 4, 3) := by decide +kernel
theorem dX0_runFrom_64 : decode cX0_runFrom 64 = .ok (.iconst 0, 1) := by decide +kernel
theorem dX0_runFrom_65 : decode cX0_runFrom 65 = .ok (.istore 11, 2) := by decide +kernel
theorem dX0_runFrom_67 : decode cX0_runFrom 67 = .ok (.iconst (-1), 1) := by decide +kernel
theorem dX0_runFrom_68 : decode cX0_runFrom 68 = .ok (.istore 12, 2) := by decide +kernel
theorem dX0_runFrom_70 : decode cX0_runFrom 70 = .ok (.lload 5, 2) := by decide +kernel
theorem dX0_runFrom_72 : decode cX0_runFrom 72 = .ok (.iload 8, 2) := by decide +kernel
theorem dX0_runFrom_74 : decode cX0_runFrom 74 = .ok (.invokestatic 28, 3) := by decide +kernel
theorem dX0_runFrom_77 : decode cX0_runFrom 77 = .ok (.ifCond .ne 45, 3) := by decide +kernel
theorem dX0_runFrom_80 : decode cX0_runFrom 80 = .ok (.aload_n 1, 1) := by decide +kernel
theorem dX0_runFrom_81 : decode cX0_runFrom 81 = .ok (.iload 8, 2) := by decide +kernel
theorem dX0_runFrom_83 : decode cX0_runFrom 83 = .ok (.invokevirtual 32, 3) := by decide +kernel
theorem dX0_runFrom_86 : decode cX0_runFrom 86 = .ok (.ifCond .ne 36, 3) := by decide +kernel
theorem dX0_runFrom_89 : decode cX0_runFrom 89 = .ok (.lload_n 3, 1) := by decide +kernel
theorem dX0_runFrom_90 : decode cX0_runFrom 90 = .ok (.iload 8, 2) := by decide +kernel
theorem dX0_runFrom_92 : decode cX0_runFrom 92 = .ok (.invokestatic 28, 3) := by decide +kernel
theorem dX0_runFrom_95 : decode cX0_runFrom 95 = .ok (.ifCond .eq 10, 3) := by decide +kernel
theorem dX0_runFrom_98 : decode cX0_runFrom 98 = .ok (.iload 7, 2) := by decide +kernel
theorem dX0_runFrom_100 : decode cX0_runFrom 100 = .ok (.istore 12, 2) := by decide +kernel
theorem dX0_runFrom_102 : decode cX0_runFrom 102 = .ok (.goto 20, 3) := by decide +kernel
theorem dX0_runFrom_105 : decode cX0_runFrom 105 = .ok (.iload 11, 2) := by decide +kernel
theorem dX0_runFrom_107 : decode cX0_runFrom 107 = .ok (.ifCond .eq 15, 3) := by decide +kernel
theorem dX0_runFrom_110 : decode cX0_runFrom 110 = .ok (.aload_n 0, 1) := by decide +kernel
theorem dX0_runFrom_111 : decode cX0_runFrom 111 = .ok (.aload_n 1, 1) := by decide +kernel
theorem dX0_runFrom_112 : decode cX0_runFrom 112 = .ok (.aload_n 2, 1) := by decide +kernel
theorem dX0_runFrom_113 : decode cX0_runFrom 113 = .ok (.iload 8, 2) := by decide +kernel
theorem dX0_runFrom_115 : decode cX0_runFrom 115 = .ok (.lload 9, 2) := by decide +kernel
theorem dX0_runFrom_117 : decode cX0_runFrom 117 = .ok (.invokevirtual 36, 3) := by decide +kernel
theorem dX0_runFrom_120 : decode cX0_runFrom 120 = .ok (.istore 12, 2) := by decide +kernel
theorem dX0_runFrom_122 : decode cX0_runFrom 122 = .ok (.aload_n 0, 1) := by decide +kernel
theorem dX0_runFrom_123 : decode cX0_runFrom 123 = .ok (.getfield 9, 3) := by decide +kernel
theorem dX0_runFrom_126 : decode cX0_runFrom 126 = .ok (.iload 8, 2) := by decide +kernel
theorem dX0_runFrom_128 : decode cX0_runFrom 128 = .ok (.iload 12, 2) := by decide +kernel
theorem dX0_runFrom_130 : decode cX0_runFrom 130 = .ok (.iastore, 1) := by decide +kernel
theorem dX0_runFrom_131 : decode cX0_runFrom 131 = .ok (.iload 12, 2) := by decide +kernel
theorem dX0_runFrom_133 : decode cX0_runFrom 133 = .ok (.ifCond .lt 20, 3) := by decide +kernel
theorem dX0_runFrom_136 : decode cX0_runFrom 136 = .ok (.aload_n 0, 1) := by decide +kernel
theorem dX0_runFrom_137 : decode cX0_runFrom 137 = .ok (.dup, 1) := by decide +kernel
theorem dX0_runFrom_138 : decode cX0_runFrom 138 = .ok (.getfield 15, 3) := by decide +kernel
theorem dX0_runFrom_141 : decode cX0_runFrom 141 = .ok (.iload 8, 2) := by decide +kernel
theorem dX0_runFrom_143 : decode cX0_runFrom 143 = .ok (.invokestatic 40, 3) := by decide +kernel
theorem dX0_runFrom_146 : decode cX0_runFrom 146 = .ok (.lor, 1) := by decide +kernel
theorem dX0_runFrom_147 : decode cX0_runFrom 147 = .ok (.putfield 15, 3) := by decide +kernel
theorem dX0_runFrom_150 : decode cX0_runFrom 150 = .ok (.goto 22, 3) := by decide +kernel
theorem dX0_runFrom_153 : decode cX0_runFrom 153 = .ok (.iload 11, 2) := by decide +kernel
theorem dX0_runFrom_155 : decode cX0_runFrom 155 = .ok (.ifCond .eq 17, 3) := by decide +kernel
theorem dX0_runFrom_158 : decode cX0_runFrom 158 = .ok (.aload_n 0, 1) := by decide +kernel
theorem dX0_runFrom_159 : decode cX0_runFrom 159 = .ok (.dup, 1) := by decide +kernel
theorem dX0_runFrom_160 : decode cX0_runFrom 160 = .ok (.getfield 19, 3) := by decide +kernel
theorem dX0_runFrom_163 : decode cX0_runFrom 163 = .ok (.iload 8, 2) := by decide +kernel
theorem dX0_runFrom_165 : decode cX0_runFrom 165 = .ok (.invokestatic 40, 3) := by decide +kernel
theorem dX0_runFrom_168 : decode cX0_runFrom 168 = .ok (.lor, 1) := by decide +kernel
theorem dX0_runFrom_169 : decode cX0_runFrom 169 = .ok (.putfield 19, 3) := by decide +kernel
theorem dX0_runFrom_172 : decode cX0_runFrom 172 = .ok (.iinc 8 (-1), 3) := by decide +kernel
theorem dX0_runFrom_175 : decode cX0_runFrom 175 = .ok (.goto (-161), 3) := by decide +kernel
theorem dX0_runFrom_178 : decode cX0_runFrom 178 = .ok (.aload_n 0, 1) := by decide +kernel
theorem dX0_runFrom_179 : decode cX0_runFrom 179 = .ok (.getfield 15, 3) := by decide +kernel
theorem dX0_runFrom_182 : decode cX0_runFrom 182 = .ok (.invokestatic 43, 3) := by decide +kernel
theorem dX0_runFrom_185 : decode cX0_runFrom 185 = .ok (.ireturn, 1) := by decide +kernel
theorem dX0_restOf_0 : decode cX0_restOf 0 = .ok (.iconst 0, 1) := by decide +kernel
theorem dX0_restOf_1 : decode cX0_restOf 1 = .ok (.istore 6, 2) := by decide +kernel
theorem dX0_restOf_3 : decode cX0_restOf 3 = .ok (.iload_n 3, 1) := by decide +kernel
theorem dX0_restOf_4 : decode cX0_restOf 4 = .ok (.bipush 6, 2) := by decide +kernel
theorem dX0_restOf_6 : decode cX0_restOf 6 = .ok (.iadd, 1) := by decide +kernel
theorem dX0_restOf_7 : decode cX0_restOf 7 = .ok (.iconst 1, 1) := by decide +kernel
theorem dX0_restOf_8 : decode cX0_restOf 8 = .ok (.isub, 1) := by decide +kernel
theorem dX0_restOf_9 : decode cX0_restOf 9 = .ok (.istore 7, 2) := by decide +kernel
theorem dX0_restOf_11 : decode cX0_restOf 11 = .ok (.iload 7, 2) := by decide +kernel
theorem dX0_restOf_13 : decode cX0_restOf 13 = .ok (.bipush 48, 2) := by decide +kernel
theorem dX0_restOf_15 : decode cX0_restOf 15 = .ok (.if_icmp .ge 44, 3) := by decide +kernel
theorem dX0_restOf_18 : decode cX0_restOf 18 = .ok (.iload 7, 2) := by decide +kernel
theorem dX0_restOf_20 : decode cX0_restOf 20 = .ok (.iload_n 3, 1) := by decide +kernel
theorem dX0_restOf_21 : decode cX0_restOf 21 = .ok (.bipush 6, 2) := by decide +kernel
theorem dX0_restOf_23 : decode cX0_restOf 23 = .ok (.iadd, 1) := by decide +kernel
theorem dX0_restOf_24 : decode cX0_restOf 24 = .ok (.iconst 1, 1) := by decide +kernel
theorem dX0_restOf_25 : decode cX0_restOf 25 = .ok (.iadd, 1) := by decide +kernel
theorem dX0_restOf_26 : decode cX0_restOf 26 = .ok (.if_icmp .gt 33, 3) := by decide +kernel
theorem dX0_restOf_29 : decode cX0_restOf 29 = .ok (.lload 4, 2) := by decide +kernel
theorem dX0_restOf_31 : decode cX0_restOf 31 = .ok (.iload 7, 2) := by decide +kernel
theorem dX0_restOf_33 : decode cX0_restOf 33 = .ok (.invokestatic 28, 3) := by decide +kernel
theorem dX0_restOf_36 : decode cX0_restOf 36 = .ok (.ifCond .eq 17, 3) := by decide +kernel
theorem dX0_restOf_39 : decode cX0_restOf 39 = .ok (.iload 6, 2) := by decide +kernel
theorem dX0_restOf_41 : decode cX0_restOf 41 = .ok (.aload_n 0, 1) := by decide +kernel
theorem dX0_restOf_42 : decode cX0_restOf 42 = .ok (.getfield 9, 3) := by decide +kernel
theorem dX0_restOf_45 : decode cX0_restOf 45 = .ok (.iload 7, 2) := by decide +kernel
theorem dX0_restOf_47 : decode cX0_restOf 47 = .ok (.iaload, 1) := by decide +kernel
theorem dX0_restOf_48 : decode cX0_restOf 48 = .ok (.invokestatic 49, 3) := by decide +kernel
theorem dX0_restOf_51 : decode cX0_restOf 51 = .ok (.istore 6, 2) := by decide +kernel
theorem dX0_restOf_53 : decode cX0_restOf 53 = .ok (.iinc 7 1, 3) := by decide +kernel
theorem dX0_restOf_56 : decode cX0_restOf 56 = .ok (.goto (-45), 3) := by decide +kernel
theorem dX0_restOf_59 : decode cX0_restOf 59 = .ok (.aload_n 2, 1) := by decide +kernel
theorem dX0_restOf_60 : decode cX0_restOf 60 = .ok (.iconst 0, 1) := by decide +kernel
theorem dX0_restOf_61 : decode cX0_restOf 61 = .ok (.aload_n 1, 1) := by decide +kernel
theorem dX0_restOf_62 : decode cX0_restOf 62 = .ok (.iload_n 3, 1) := by decide +kernel
theorem dX0_restOf_63 : decode cX0_restOf 63 = .ok (.iload 6, 2) := by decide +kernel
theorem dX0_restOf_65 : decode cX0_restOf 65 = .ok (.invokevirtual 55, 3) := by decide +kernel
theorem dX0_restOf_68 : decode cX0_restOf 68 = .ok (.istore 7, 2) := by decide +kernel
theorem dX0_restOf_70 : decode cX0_restOf 70 = .ok (.aload_n 1, 1) := by decide +kernel
theorem dX0_restOf_71 : decode cX0_restOf 71 = .ok (.getfield 61, 3) := by decide +kernel
theorem dX0_restOf_74 : decode cX0_restOf 74 = .ok (.iload_n 3, 1) := by decide +kernel
theorem dX0_restOf_75 : decode cX0_restOf 75 = .ok (.iaload, 1) := by decide +kernel
theorem dX0_restOf_76 : decode cX0_restOf 76 = .ok (.iload 7, 2) := by decide +kernel
theorem dX0_restOf_78 : decode cX0_restOf 78 = .ok (.aload_n 1, 1) := by decide +kernel
theorem dX0_restOf_79 : decode cX0_restOf 79 = .ok (.getfield 64, 3) := by decide +kernel
theorem dX0_restOf_82 : decode cX0_restOf 82 = .ok (.iload_n 3, 1) := by decide +kernel
theorem dX0_restOf_83 : decode cX0_restOf 83 = .ok (.iaload, 1) := by decide +kernel
theorem dX0_restOf_84 : decode cX0_restOf 84 = .ok (.invokestatic 67, 3) := by decide +kernel
theorem dX0_restOf_87 : decode cX0_restOf 87 = .ok (.sipush 999, 3) := by decide +kernel
theorem dX0_restOf_90 : decode cX0_restOf 90 = .ok (.invokestatic 71, 3) := by decide +kernel
theorem dX0_restOf_93 : decode cX0_restOf 93 = .ok (.istore 8, 2) := by decide +kernel
theorem dX0_restOf_95 : decode cX0_restOf 95 = .ok (.iload 6, 2) := by decide +kernel
theorem dX0_restOf_97 : decode cX0_restOf 97 = .ok (.iload 8, 2) := by decide +kernel
theorem dX0_restOf_99 : decode cX0_restOf 99 = .ok (.if_icmp .le 11, 3) := by decide +kernel
theorem dX0_restOf_102 : decode cX0_restOf 102 = .ok (.iload 6, 2) := by decide +kernel
theorem dX0_restOf_104 : decode cX0_restOf 104 = .ok (.iload 8, 2) := by decide +kernel
theorem dX0_restOf_106 : decode cX0_restOf 106 = .ok (.isub, 1) := by decide +kernel
theorem dX0_restOf_107 : decode cX0_restOf 107 = .ok (.goto 4, 3) := by decide +kernel
theorem dX0_restOf_110 : decode cX0_restOf 110 = .ok (.iconst (-1), 1) := by decide +kernel
theorem dX0_restOf_111 : decode cX0_restOf 111 = .ok (.ireturn, 1) := by decide +kernel
theorem dX1_init_0 : decode cX1_init 0 = .ok (.aload_n 0, 1) := by decide +kernel
theorem dX1_init_1 : decode cX1_init 1 = .ok (.invokespecial 3, 3) := by decide +kernel
theorem dX1_init_4 : decode cX1_init 4 = .ok (.aload_n 0, 1) := by decide +kernel
theorem dX1_init_5 : decode cX1_init 5 = .ok (.bipush 48, 2) := by decide +kernel
theorem dX1_init_7 : decode cX1_init 7 = .ok (.newarray .int, 2) := by decide +kernel
theorem dX1_init_9 : decode cX1_init 9 = .ok (.putfield 9, 3) := by decide +kernel
theorem dX1_init_12 : decode cX1_init 12 = .ok (.aload_n 0, 1) := by decide +kernel
theorem dX1_init_13 : decode cX1_init 13 = .ok (.bipush 48, 2) := by decide +kernel
theorem dX1_init_15 : decode cX1_init 15 = .ok (.newarray .int, 2) := by decide +kernel
theorem dX1_init_17 : decode cX1_init 17 = .ok (.putfield 15, 3) := by decide +kernel
theorem dX1_init_20 : decode cX1_init 20 = .ok (.return_, 1) := by decide +kernel
theorem dX1_become_0 : decode cX1_become 0 = .ok (.aload_n 0, 1) := by decide +kernel
theorem dX1_become_1 : decode cX1_become 1 = .ok (.getfield 9, 3) := by decide +kernel
theorem dX1_become_4 : decode cX1_become 4 = .ok (.iload_n 1, 1) := by decide +kernel
theorem dX1_become_5 : decode cX1_become 5 = .ok (.iload_n 2, 1) := by decide +kernel
theorem dX1_become_6 : decode cX1_become 6 = .ok (.iastore, 1) := by decide +kernel
theorem dX1_become_7 : decode cX1_become 7 = .ok (.aload_n 0, 1) := by decide +kernel
theorem dX1_become_8 : decode cX1_become 8 = .ok (.getfield 15, 3) := by decide +kernel
theorem dX1_become_11 : decode cX1_become 11 = .ok (.iload_n 1, 1) := by decide +kernel
theorem dX1_become_12 : decode cX1_become 12 = .ok (.iload_n 3, 1) := by decide +kernel
theorem dX1_become_13 : decode cX1_become 13 = .ok (.iastore, 1) := by decide +kernel
theorem dX1_become_14 : decode cX1_become 14 = .ok (.return_, 1) := by decide +kernel
theorem dX1_takeFrom_0 : decode cX1_takeFrom 0 = .ok (.aload_n 1, 1) := by decide +kernel
theorem dX1_takeFrom_1 : decode cX1_takeFrom 1 = .ok (.getfield 9, 3) := by decide +kernel
theorem dX1_takeFrom_4 : decode cX1_takeFrom 4 = .ok (.iconst 0, 1) := by decide +kernel
theorem dX1_takeFrom_5 : decode cX1_takeFrom 5 = .ok (.aload_n 0, 1) := by decide +kernel
theorem dX1_takeFrom_6 : decode cX1_takeFrom 6 = .ok (.getfield 9, 3) := by decide +kernel
theorem dX1_takeFrom_9 : decode cX1_takeFrom 9 = .ok (.iconst 0, 1) := by decide +kernel
theorem dX1_takeFrom_10 : decode cX1_takeFrom 10 = .ok (.bipush 48, 2) := by decide +kernel
theorem dX1_takeFrom_12 : decode cX1_takeFrom 12 = .ok (.invokestatic 18, 3) := by decide +kernel
theorem dX1_takeFrom_15 : decode cX1_takeFrom 15 = .ok (.aload_n 1, 1) := by decide +kernel
theorem dX1_takeFrom_16 : decode cX1_takeFrom 16 = .ok (.getfield 15, 3) := by decide +kernel
theorem dX1_takeFrom_19 : decode cX1_takeFrom 19 = .ok (.iconst 0, 1) := by decide +kernel
theorem dX1_takeFrom_20 : decode cX1_takeFrom 20 = .ok (.aload_n 0, 1) := by decide +kernel
theorem dX1_takeFrom_21 : decode cX1_takeFrom 21 = .ok (.getfield 15, 3) := by decide +kernel
theorem dX1_takeFrom_24 : decode cX1_takeFrom 24 = .ok (.iconst 0, 1) := by decide +kernel
theorem dX1_takeFrom_25 : decode cX1_takeFrom 25 = .ok (.bipush 48, 2) := by decide +kernel
theorem dX1_takeFrom_27 : decode cX1_takeFrom 27 = .ok (.invokestatic 18, 3) := by decide +kernel
theorem dX1_takeFrom_30 : decode cX1_takeFrom 30 = .ok (.aload_n 0, 1) := by decide +kernel
theorem dX1_takeFrom_31 : decode cX1_takeFrom 31 = .ok (.aload_n 1, 1) := by decide +kernel
theorem dX1_takeFrom_32 : decode cX1_takeFrom 32 = .ok (.getfield 24, 3) := by decide +kernel
theorem dX1_takeFrom_35 : decode cX1_takeFrom 35 = .ok (.putfield 24, 3) := by decide +kernel
theorem dX1_takeFrom_38 : decode cX1_takeFrom 38 = .ok (.aload_n 0, 1) := by decide +kernel
theorem dX1_takeFrom_39 : decode cX1_takeFrom 39 = .ok (.aload_n 1, 1) := by decide +kernel
theorem dX1_takeFrom_40 : decode cX1_takeFrom 40 = .ok (.getfield 28, 3) := by decide +kernel
theorem dX1_takeFrom_43 : decode cX1_takeFrom 43 = .ok (.putfield 28, 3) := by decide +kernel
theorem dX1_takeFrom_46 : decode cX1_takeFrom 46 = .ok (.aload_n 0, 1) := by decide +kernel
theorem dX1_takeFrom_47 : decode cX1_takeFrom 47 = .ok (.aload_n 1, 1) := by decide +kernel
theorem dX1_takeFrom_48 : decode cX1_takeFrom 48 = .ok (.getfield 31, 3) := by decide +kernel
theorem dX1_takeFrom_51 : decode cX1_takeFrom 51 = .ok (.putfield 31, 3) := by decide +kernel
theorem dX1_takeFrom_54 : decode cX1_takeFrom 54 = .ok (.return_, 1) := by decide +kernel
theorem dX1_keeps_0 : decode cX1_keeps 0 = .ok (.aload_n 0, 1) := by decide +kernel
theorem dX1_keeps_1 : decode cX1_keeps 1 = .ok (.getfield 9, 3) := by decide +kernel
theorem dX1_keeps_4 : decode cX1_keeps 4 = .ok (.iload_n 1, 1) := by decide +kernel
theorem dX1_keeps_5 : decode cX1_keeps 5 = .ok (.iaload, 1) := by decide +kernel
theorem dX1_keeps_6 : decode cX1_keeps 6 = .ok (.iconst 5, 1) := by decide +kernel
theorem dX1_keeps_7 : decode cX1_keeps 7 = .ok (.if_icmp .eq 14, 3) := by decide +kernel
theorem dX1_keeps_10 : decode cX1_keeps 10 = .ok (.aload_n 0, 1) := by decide +kernel
theorem dX1_keeps_11 : decode cX1_keeps 11 = .ok (.getfield 24, 3) := by decide +kernel
theorem dX1_keeps_14 : decode cX1_keeps 14 = .ok (.iload_n 1, 1) := by decide +kernel
theorem dX1_keeps_15 : decode cX1_keeps 15 = .ok (.invokestatic 35, 3) := by decide +kernel
theorem dX1_keeps_18 : decode cX1_keeps 18 = .ok (.ifCond .eq 7, 3) := by decide +kernel
theorem dX1_keeps_21 : decode cX1_keeps 21 = .ok (.iconst 1, 1) := by decide +kernel
theorem dX1_keeps_22 : decode cX1_keeps 22 = .ok (.goto 4, 3) := by decide +kernel
theorem dX1_keeps_25 : decode cX1_keeps 25 = .ok (.iconst 0, 1) := by decide +kernel
theorem dX1_keeps_26 : decode cX1_keeps 26 = .ok (.ireturn, 1) := by decide +kernel
theorem dX1_placesBelow_0 : decode cX1_placesBelow 0 = .ok (.iload_n 1, 1) := by decide +kernel
theorem dX1_placesBelow_1 : decode cX1_placesBelow 1 = .ok (.bipush 6, 2) := by decide +kernel
theorem dX1_placesBelow_3 : decode cX1_placesBelow 3 = .ok (.irem, 1) := by decide +kernel
theorem dX1_placesBelow_4 : decode cX1_placesBelow 4 = .ok (.istore_n 2, 1) := by decide +kernel
theorem dX1_placesBelow_5 : decode cX1_placesBelow 5 = .ok (.aload_n 0, 1) := by decide +kernel
theorem dX1_placesBelow_6 : decode cX1_placesBelow 6 = .ok (.getfield 9, 3) := by decide +kernel
theorem dX1_placesBelow_9 : decode cX1_placesBelow 9 = .ok (.iload_n 1, 1) := by decide +kernel
theorem dX1_placesBelow_10 : decode cX1_placesBelow 10 = .ok (.iaload, 1) := by decide +kernel
theorem dX1_placesBelow_11 : decode cX1_placesBelow 11 = .ok (.invokestatic 39, 3) := by decide +kernel
theorem dX1_placesBelow_14 : decode cX1_placesBelow 14 = .ok (.ifCond .eq 9, 3) := by decide +kernel
theorem dX1_placesBelow_17 : decode cX1_placesBelow 17 = .ok (.iconst 1, 1) := by decide +kernel
theorem dX1_placesBelow_18 : decode cX1_placesBelow 18 = .ok (.iload_n 2, 1) := by decide +kernel
theorem dX1_placesBelow_19 : decode cX1_placesBelow 19 = .ok (.ishl, 1) := by decide +kernel
theorem dX1_placesBelow_20 : decode cX1_placesBelow 20 = .ok (.goto 4, 3) := by decide +kernel
theorem dX1_placesBelow_23 : decode cX1_placesBelow 23 = .ok (.iconst 0, 1) := by decide +kernel
theorem dX1_placesBelow_24 : decode cX1_placesBelow 24 = .ok (.istore_n 3, 1) := by decide +kernel
theorem dX1_placesBelow_25 : decode cX1_placesBelow 25 = .ok (.aload_n 0, 1) := by decide +kernel
theorem dX1_placesBelow_26 : decode cX1_placesBelow 26 = .ok (.getfield 9, 3) := by decide +kernel
theorem dX1_placesBelow_29 : decode cX1_placesBelow 29 = .ok (.iload_n 1, 1) := by decide +kernel
theorem dX1_placesBelow_30 : decode cX1_placesBelow 30 = .ok (.iaload, 1) := by decide +kernel
theorem dX1_placesBelow_31 : decode cX1_placesBelow 31 = .ok (.invokestatic 43, 3) := by decide +kernel
theorem dX1_placesBelow_34 : decode cX1_placesBelow 34 = .ok (.ifCond .eq 13, 3) := by decide +kernel
theorem dX1_placesBelow_37 : decode cX1_placesBelow 37 = .ok (.iload_n 3, 1) := by decide +kernel
theorem dX1_placesBelow_38 : decode cX1_placesBelow 38 = .ok (.iconst 1, 1) := by decide +kernel
theorem dX1_placesBelow_39 : decode cX1_placesBelow 39 = .ok (.iload_n 2, 1) := by decide +kernel
theorem dX1_placesBelow_40 : decode cX1_placesBelow 40 = .ok (.iconst 1, 1) := by decide +kernel
theorem dX1_placesBelow_41 : decode cX1_placesBelow 41 = .ok (.ixor, 1) := by decide +kernel
theorem dX1_placesBelow_42 : decode cX1_placesBelow 42 = .ok (.ishl, 1) := by decide +kernel
theorem dX1_placesBelow_43 : decode cX1_placesBelow 43 = .ok (.ior, 1) := by decide +kernel
theorem dX1_placesBelow_44 : decode cX1_placesBelow 44 = .ok (.goto 4, 3) := by decide +kernel
theorem dX1_placesBelow_47 : decode cX1_placesBelow 47 = .ok (.iload_n 3, 1) := by decide +kernel
theorem dX1_placesBelow_48 : decode cX1_placesBelow 48 = .ok (.ireturn, 1) := by decide +kernel
theorem dX1_under_0 : decode cX1_under 0 = .ok (.aload_n 0, 1) := by decide +kernel
theorem dX1_under_1 : decode cX1_under 1 = .ok (.iload_n 1, 1) := by decide +kernel
theorem dX1_under_2 : decode cX1_under 2 = .ok (.invokevirtual 46, 3) := by decide +kernel
theorem dX1_under_5 : decode cX1_under 5 = .ok (.i2l, 1) := by decide +kernel
theorem dX1_under_6 : decode cX1_under 6 = .ok (.lstore_n 2, 1) := by decide +kernel
theorem dX1_under_7 : decode cX1_under 7 = .ok (.iload_n 1, 1) := by decide +kernel
theorem dX1_under_8 : decode cX1_under 8 = .ok (.bipush 6, 2) := by decide +kernel
theorem dX1_under_10 : decode cX1_under 10 = .ok (.if_icmp .ge 7, 3) := by decide +kernel
theorem dX1_under_13 : decode cX1_under 13 = .ok (.lconst 0, 1) := by decide +kernel
theorem dX1_under_14 : decode cX1_under 14 = .ok (.goto 14, 3) := by decide +kernel
theorem dX1_under_17 : decode cX1_under 17 = .ok (.lload_n 2, 1) := by decide +kernel
theorem dX1_under_18 : decode cX1_under 18 = .ok (.iload_n 1, 1) := by decide +kernel
theorem dX1_under_19 : decode cX1_under 19 = .ok (.bipush 6, 2) := by decide +kernel
theorem dX1_under_21 : decode cX1_under 21 = .ok (.idiv, 1) := by decide +kernel
theorem dX1_under_22 : decode cX1_under 22 = .ok (.iconst 1, 1) := by decide +kernel
theorem dX1_under_23 : decode cX1_under 23 = .ok (.isub, 1) := by decide +kernel
theorem dX1_under_24 : decode cX1_under 24 = .ok (.bipush 6, 2) := by decide +kernel
theorem dX1_under_26 : decode cX1_under 26 = .ok (.imul, 1) := by decide +kernel
theorem dX1_under_27 : decode cX1_under 27 = .ok (.lshl, 1) := by decide +kernel
theorem dX1_under_28 : decode cX1_under 28 = .ok (.lreturn, 1) := by decide +kernel
theorem dX1_over_0 : decode cX1_over 0 = .ok (.iload_n 1, 1) := by decide +kernel
theorem dX1_over_1 : decode cX1_over 1 = .ok (.bipush 6, 2) := by decide +kernel
theorem dX1_over_3 : decode cX1_over 3 = .ok (.iadd, 1) := by decide +kernel
theorem dX1_over_4 : decode cX1_over 4 = .ok (.istore_n 2, 1) := by decide +kernel
theorem dX1_over_5 : decode cX1_over 5 = .ok (.iload_n 2, 1) := by decide +kernel
theorem dX1_over_6 : decode cX1_over 6 = .ok (.bipush 48, 2) := by decide +kernel
theorem dX1_over_8 : decode cX1_over 8 = .ok (.if_icmp .lt 5, 3) := by decide +kernel
theorem dX1_over_11 : decode cX1_over 11 = .ok (.lconst 0, 1) := by decide +kernel
theorem dX1_over_12 : decode cX1_over 12 = .ok (.lreturn, 1) := by decide +kernel
theorem dX1_over_13 : decode cX1_over 13 = .ok (.iload_n 2, 1) := by decide +kernel
theorem dX1_over_14 : decode cX1_over 14 = .ok (.iconst 1, 1) := by decide +kernel
theorem dX1_over_15 : decode cX1_over 15 = .ok (.ixor, 1) := by decide +kernel
theorem dX1_over_16 : decode cX1_over 16 = .ok (.istore_n 3, 1) := by decide +kernel
theorem dX1_over_17 : decode cX1_over 17 = .ok (.aload_n 0, 1) := by decide +kernel
theorem dX1_over_18 : decode cX1_over 18 = .ok (.getfield 9, 3) := by decide +kernel
theorem dX1_over_21 : decode cX1_over 21 = .ok (.iload_n 2, 1) := by decide +kernel
theorem dX1_over_22 : decode cX1_over 22 = .ok (.iaload, 1) := by decide +kernel
theorem dX1_over_23 : decode cX1_over 23 = .ok (.invokestatic 39, 3) := by decide +kernel
theorem dX1_over_26 : decode cX1_over 26 = .ok (.ifCond .eq 10, 3) := by decide +kernel
theorem dX1_over_29 : decode cX1_over 29 = .ok (.iload_n 2, 1) := by decide +kernel
theorem dX1_over_30 : decode cX1_over 30 = .ok (.invokestatic 50, 3) := by decide +kernel
theorem dX1_over_33 : decode cX1_over 33 = .ok (.goto 4, 3) := by decide +kernel
theorem dX1_over_36 : decode cX1_over 36 = .ok (.lconst 0, 1) := by decide +kernel
theorem dX1_over_37 : decode cX1_over 37 = .ok (.lstore 4, 2) := by decide +kernel
theorem dX1_over_39 : decode cX1_over 39 = .ok (.aload_n 0, 1) := by decide +kernel
theorem dX1_over_40 : decode cX1_over 40 = .ok (.getfield 9, 3) := by decide +kernel
theorem dX1_over_43 : decode cX1_over 43 = .ok (.iload_n 3, 1) := by decide +kernel
theorem dX1_over_44 : decode cX1_over 44 = .ok (.iaload, 1) := by decide +kernel
theorem dX1_over_45 : decode cX1_over 45 = .ok (.invokestatic 43, 3) := by decide +kernel
theorem dX1_over_48 : decode cX1_over 48 = .ok (.ifCond .eq 13, 3) := by decide +kernel
theorem dX1_over_51 : decode cX1_over 51 = .ok (.lload 4, 2) := by decide +kernel
theorem dX1_over_53 : decode cX1_over 53 = .ok (.iload_n 3, 1) := by decide +kernel
theorem dX1_over_54 : decode cX1_over 54 = .ok (.invokestatic 50, 3) := by decide +kernel
theorem dX1_over_57 : decode cX1_over 57 = .ok (.lor, 1) := by decide +kernel
theorem dX1_over_58 : decode cX1_over 58 = .ok (.goto 5, 3) := by decide +kernel
theorem dX1_over_61 : decode cX1_over 61 = .ok (.lload 4, 2) := by decide +kernel
theorem dX1_over_63 : decode cX1_over 63 = .ok (.lreturn, 1) := by decide +kernel
theorem dX2_init_0 : decode cX2_init 0 = .ok (.aload_n 0, 1) := by decide +kernel
theorem dX2_init_1 : decode cX2_init 1 = .ok (.invokespecial 3, 3) := by decide +kernel
theorem dX2_init_4 : decode cX2_init 4 = .ok (.aload_n 0, 1) := by decide +kernel
theorem dX2_init_5 : decode cX2_init 5 = .ok (.bipush 48, 2) := by decide +kernel
theorem dX2_init_7 : decode cX2_init 7 = .ok (.newarray .int, 2) := by decide +kernel
theorem dX2_init_9 : decode cX2_init 9 = .ok (.putfield 9, 3) := by decide +kernel
theorem dX2_init_12 : decode cX2_init 12 = .ok (.aload_n 0, 1) := by decide +kernel
theorem dX2_init_13 : decode cX2_init 13 = .ok (.iconst (-1), 1) := by decide +kernel
theorem dX2_init_14 : decode cX2_init 14 = .ok (.putfield 15, 3) := by decide +kernel
theorem dX2_init_17 : decode cX2_init 17 = .ok (.return_, 1) := by decide +kernel
theorem dX2_isMissing_0 : decode cX2_isMissing 0 = .ok (.aload_n 0, 1) := by decide +kernel
theorem dX2_isMissing_1 : decode cX2_isMissing 1 = .ok (.getfield 15, 3) := by decide +kernel
theorem dX2_isMissing_4 : decode cX2_isMissing 4 = .ok (.iconst (-1), 1) := by decide +kernel
theorem dX2_isMissing_5 : decode cX2_isMissing 5 = .ok (.if_icmp .ne 7, 3) := by decide +kernel
theorem dX2_isMissing_8 : decode cX2_isMissing 8 = .ok (.iconst 1, 1) := by decide +kernel
theorem dX2_isMissing_9 : decode cX2_isMissing 9 = .ok (.goto 4, 3) := by decide +kernel
theorem dX2_isMissing_12 : decode cX2_isMissing 12 = .ok (.iconst 0, 1) := by decide +kernel
theorem dX2_isMissing_13 : decode cX2_isMissing 13 = .ok (.ireturn, 1) := by decide +kernel
theorem dX2_become_0 : decode cX2_become 0 = .ok (.aload_n 0, 1) := by decide +kernel
theorem dX2_become_1 : decode cX2_become 1 = .ok (.iload_n 1, 1) := by decide +kernel
theorem dX2_become_2 : decode cX2_become 2 = .ok (.putfield 15, 3) := by decide +kernel
theorem dX2_become_5 : decode cX2_become 5 = .ok (.aload_n 0, 1) := by decide +kernel
theorem dX2_become_6 : decode cX2_become 6 = .ok (.iload_n 2, 1) := by decide +kernel
theorem dX2_become_7 : decode cX2_become 7 = .ok (.putfield 19, 3) := by decide +kernel
theorem dX2_become_10 : decode cX2_become 10 = .ok (.iconst 0, 1) := by decide +kernel
theorem dX2_become_11 : decode cX2_become 11 = .ok (.istore_n 3, 1) := by decide +kernel
theorem dX2_become_12 : decode cX2_become 12 = .ok (.iload_n 3, 1) := by decide +kernel
theorem dX2_become_13 : decode cX2_become 13 = .ok (.bipush 48, 2) := by decide +kernel
theorem dX2_become_15 : decode cX2_become 15 = .ok (.if_icmp .ge 16, 3) := by decide +kernel
theorem dX2_become_18 : decode cX2_become 18 = .ok (.aload_n 0, 1) := by decide +kernel
theorem dX2_become_19 : decode cX2_become 19 = .ok (.getfield 9, 3) := by decide +kernel
theorem dX2_become_22 : decode cX2_become 22 = .ok (.iload_n 3, 1) := by decide +kernel
theorem dX2_become_23 : decode cX2_become 23 = .ok (.iconst 0, 1) := by decide +kernel
theorem dX2_become_24 : decode cX2_become 24 = .ok (.iastore, 1) := by decide +kernel
theorem dX2_become_25 : decode cX2_become 25 = .ok (.iinc 3 1, 3) := by decide +kernel
theorem dX2_become_28 : decode cX2_become 28 = .ok (.goto (-16), 3) := by decide +kernel
theorem dX2_become_31 : decode cX2_become 31 = .ok (.return_, 1) := by decide +kernel
theorem dX2_put_0 : decode cX2_put 0 = .ok (.aload_n 0, 1) := by decide +kernel
theorem dX2_put_1 : decode cX2_put 1 = .ok (.getfield 15, 3) := by decide +kernel
theorem dX2_put_4 : decode cX2_put 4 = .ok (.ifCond .ne 8, 3) := by decide +kernel
theorem dX2_put_7 : decode cX2_put 7 = .ok (.bipush 24, 2) := by decide +kernel
theorem dX2_put_9 : decode cX2_put 9 = .ok (.goto 17, 3) := by decide +kernel
theorem dX2_put_12 : decode cX2_put 12 = .ok (.aload_n 0, 1) := by decide +kernel
theorem dX2_put_13 : decode cX2_put 13 = .ok (.getfield 15, 3) := by decide +kernel
theorem dX2_put_16 : decode cX2_put 16 = .ok (.iconst 1, 1) := by decide +kernel
theorem dX2_put_17 : decode cX2_put 17 = .ok (.if_icmp .ne 8, 3) := by decide +kernel
theorem dX2_put_20 : decode cX2_put 20 = .ok (.bipush 16, 2) := by decide +kernel
theorem dX2_put_22 : decode cX2_put 22 = .ok (.goto 4, 3) := by decide +kernel
theorem dX2_put_25 : decode cX2_put 25 = .ok (.iconst 0, 1) := by decide +kernel
theorem dX2_put_26 : decode cX2_put 26 = .ok (.istore_n 3, 1) := by decide +kernel
theorem dX2_put_27 : decode cX2_put 27 = .ok (.aload_n 0, 1) := by decide +kernel
theorem dX2_put_28 : decode cX2_put 28 = .ok (.getfield 9, 3) := by decide +kernel
theorem dX2_put_31 : decode cX2_put 31 = .ok (.iload_n 1, 1) := by decide +kernel
theorem dX2_put_32 : decode cX2_put 32 = .ok (.iload_n 2, 1) := by decide +kernel
theorem dX2_put_33 : decode cX2_put 33 = .ok (.iload_n 3, 1) := by decide +kernel
theorem dX2_put_34 : decode cX2_put 34 = .ok (.ishl, 1) := by decide +kernel
theorem dX2_put_35 : decode cX2_put 35 = .ok (.iload_n 3, 1) := by decide +kernel
theorem dX2_put_36 : decode cX2_put 36 = .ok (.ishr, 1) := by decide +kernel
theorem dX2_put_37 : decode cX2_put 37 = .ok (.iastore, 1) := by decide +kernel
theorem dX2_put_38 : decode cX2_put 38 = .ok (.return_, 1) := by decide +kernel
theorem dX2_hasRoom_0 : decode cX2_hasRoom 0 = .ok (.iload_n 1, 1) := by decide +kernel
theorem dX2_hasRoom_1 : decode cX2_hasRoom 1 = .ok (.ifCond .lt 29, 3) := by decide +kernel
theorem dX2_hasRoom_4 : decode cX2_hasRoom 4 = .ok (.iload_n 2, 1) := by decide +kernel
theorem dX2_hasRoom_5 : decode cX2_hasRoom 5 = .ok (.ifCond .lt 25, 3) := by decide +kernel
theorem dX2_hasRoom_8 : decode cX2_hasRoom 8 = .ok (.iload_n 1, 1) := by decide +kernel
theorem dX2_hasRoom_9 : decode cX2_hasRoom 9 = .ok (.aload_n 0, 1) := by decide +kernel
theorem dX2_hasRoom_10 : decode cX2_hasRoom 10 = .ok (.getfield 19, 3) := by decide +kernel
theorem dX2_hasRoom_13 : decode cX2_hasRoom 13 = .ok (.if_icmp .gt 17, 3) := by decide +kernel
theorem dX2_hasRoom_16 : decode cX2_hasRoom 16 = .ok (.iload_n 2, 1) := by decide +kernel
theorem dX2_hasRoom_17 : decode cX2_hasRoom 17 = .ok (.aload_n 0, 1) := by decide +kernel
theorem dX2_hasRoom_18 : decode cX2_hasRoom 18 = .ok (.getfield 19, 3) := by decide +kernel
theorem dX2_hasRoom_21 : decode cX2_hasRoom 21 = .ok (.iload_n 1, 1) := by decide +kernel
theorem dX2_hasRoom_22 : decode cX2_hasRoom 22 = .ok (.isub, 1) := by decide +kernel
theorem dX2_hasRoom_23 : decode cX2_hasRoom 23 = .ok (.if_icmp .gt 7, 3) := by decide +kernel
theorem dX2_hasRoom_26 : decode cX2_hasRoom 26 = .ok (.iconst 1, 1) := by decide +kernel
theorem dX2_hasRoom_27 : decode cX2_hasRoom 27 = .ok (.goto 4, 3) := by decide +kernel
theorem dX2_hasRoom_30 : decode cX2_hasRoom 30 = .ok (.iconst 0, 1) := by decide +kernel
theorem dX2_hasRoom_31 : decode cX2_hasRoom 31 = .ok (.ireturn, 1) := by decide +kernel
theorem dX2_firstUnlike_0 : decode cX2_firstUnlike 0 = .ok (.iconst 0, 1) := by decide +kernel
theorem dX2_firstUnlike_1 : decode cX2_firstUnlike 1 = .ok (.istore_n 3, 1) := by decide +kernel
theorem dX2_firstUnlike_2 : decode cX2_firstUnlike 2 = .ok (.iload_n 3, 1) := by decide +kernel
theorem dX2_firstUnlike_3 : decode cX2_firstUnlike 3 = .ok (.aload_n 0, 1) := by decide +kernel
theorem dX2_firstUnlike_4 : decode cX2_firstUnlike 4 = .ok (.getfield 19, 3) := by decide +kernel
theorem dX2_firstUnlike_7 : decode cX2_firstUnlike 7 = .ok (.if_icmp .ge 39, 3) := by decide +kernel
theorem dX2_firstUnlike_10 : decode cX2_firstUnlike 10 = .ok (.iload_n 3, 1) := by decide +kernel
theorem dX2_firstUnlike_11 : decode cX2_firstUnlike 11 = .ok (.bipush 48, 2) := by decide +kernel
theorem dX2_firstUnlike_13 : decode cX2_firstUnlike 13 = .ok (.if_icmp .ge 33, 3) := by decide +kernel
theorem dX2_firstUnlike_16 : decode cX2_firstUnlike 16 = .ok (.aload_n 0, 1) := by decide +kernel
theorem dX2_firstUnlike_17 : decode cX2_firstUnlike 17 = .ok (.getfield 9, 3) := by decide +kernel
theorem dX2_firstUnlike_20 : decode cX2_firstUnlike 20 = .ok (.iload_n 3, 1) := by decide +kernel
theorem dX2_firstUnlike_21 : decode cX2_firstUnlike 21 = .ok (.iaload, 1) := by decide +kernel
theorem dX2_firstUnlike_22 : decode cX2_firstUnlike 22 = .ok (.lload_n 1, 1) := by decide +kernel
theorem dX2_firstUnlike_23 : decode cX2_firstUnlike 23 = .ok (.iload_n 3, 1) := by decide +kernel
theorem dX2_firstUnlike_24 : decode cX2_firstUnlike 24 = .ok (.invokestatic 22, 3) := by decide +kernel
theorem dX2_firstUnlike_27 : decode cX2_firstUnlike 27 = .ok (.ifCond .eq 7, 3) := by decide +kernel
theorem dX2_firstUnlike_30 : decode cX2_firstUnlike 30 = .ok (.iconst 1, 1) := by decide +kernel
theorem dX2_firstUnlike_31 : decode cX2_firstUnlike 31 = .ok (.goto 4, 3) := by decide +kernel
theorem dX2_firstUnlike_34 : decode cX2_firstUnlike 34 = .ok (.iconst 0, 1) := by decide +kernel
theorem dX2_firstUnlike_35 : decode cX2_firstUnlike 35 = .ok (.if_icmp .eq 5, 3) := by decide +kernel
theorem dX2_firstUnlike_38 : decode cX2_firstUnlike 38 = .ok (.iload_n 3, 1) := by decide +kernel
theorem dX2_firstUnlike_39 : decode cX2_firstUnlike 39 = .ok (.ireturn, 1) := by decide +kernel
theorem dX2_firstUnlike_40 : decode cX2_firstUnlike 40 = .ok (.iinc 3 1, 3) := by decide +kernel
theorem dX2_firstUnlike_43 : decode cX2_firstUnlike 43 = .ok (.goto (-41), 3) := by decide +kernel
theorem dX2_firstUnlike_46 : decode cX2_firstUnlike 46 = .ok (.iconst (-1), 1) := by decide +kernel
theorem dX2_firstUnlike_47 : decode cX2_firstUnlike 47 = .ok (.ireturn, 1) := by decide +kernel
theorem dX3_init_0 : decode cX3_init 0 = .ok (.aload_n 0, 1) := by decide +kernel
theorem dX3_init_1 : decode cX3_init 1 = .ok (.invokespecial 3, 3) := by decide +kernel
theorem dX3_init_4 : decode cX3_init 4 = .ok (.aload_n 0, 1) := by decide +kernel
theorem dX3_init_5 : decode cX3_init 5 = .ok (.sipush 160, 3) := by decide +kernel
theorem dX3_init_8 : decode cX3_init 8 = .ok (.newarray .int, 2) := by decide +kernel
theorem dX3_init_10 : decode cX3_init 10 = .ok (.putfield 9, 3) := by decide +kernel
theorem dX3_init_13 : decode cX3_init 13 = .ok (.return_, 1) := by decide +kernel
theorem dX3_add_0 : decode cX3_add 0 = .ok (.aload_n 0, 1) := by decide +kernel
theorem dX3_add_1 : decode cX3_add 1 = .ok (.getfield 15, 3) := by decide +kernel
theorem dX3_add_4 : decode cX3_add 4 = .ok (.sipush 160, 3) := by decide +kernel
theorem dX3_add_7 : decode cX3_add 7 = .ok (.if_icmp .ge 20, 3) := by decide +kernel
theorem dX3_add_10 : decode cX3_add 10 = .ok (.aload_n 0, 1) := by decide +kernel
theorem dX3_add_11 : decode cX3_add 11 = .ok (.getfield 9, 3) := by decide +kernel
theorem dX3_add_14 : decode cX3_add 14 = .ok (.aload_n 0, 1) := by decide +kernel
theorem dX3_add_15 : decode cX3_add 15 = .ok (.dup, 1) := by decide +kernel
theorem dX3_add_16 : decode cX3_add 16 = .ok (.getfield 15, 3) := by decide +kernel
theorem dX3_add_19 : decode cX3_add 19 = .ok (.dup_x1, 1) := by decide +kernel
theorem dX3_add_20 : decode cX3_add 20 = .ok (.iconst 1, 1) := by decide +kernel
theorem dX3_add_21 : decode cX3_add 21 = .ok (.iadd, 1) := by decide +kernel
theorem dX3_add_22 : decode cX3_add 22 = .ok (.putfield 15, 3) := by decide +kernel
theorem dX3_add_25 : decode cX3_add 25 = .ok (.iload_n 1, 1) := by decide +kernel
theorem dX3_add_26 : decode cX3_add 26 = .ok (.iastore, 1) := by decide +kernel
theorem dX3_add_27 : decode cX3_add 27 = .ok (.return_, 1) := by decide +kernel
theorem dX3_readInto_0 : decode cX3_readInto 0 = .ok (.aload_n 0, 1) := by decide +kernel
theorem dX3_readInto_1 : decode cX3_readInto 1 = .ok (.aload_n 1, 1) := by decide +kernel
theorem dX3_readInto_2 : decode cX3_readInto 2 = .ok (.putfield 19, 3) := by decide +kernel
theorem dX3_readInto_5 : decode cX3_readInto 5 = .ok (.aload_n 0, 1) := by decide +kernel
theorem dX3_readInto_6 : decode cX3_readInto 6 = .ok (.getfield 19, 3) := by decide +kernel
theorem dX3_readInto_9 : decode cX3_readInto 9 = .ok (.invokevirtual 23, 3) := by decide +kernel
theorem dX3_readInto_12 : decode cX3_readInto 12 = .ok (.aload_n 0, 1) := by decide +kernel
theorem dX3_readInto_13 : decode cX3_readInto 13 = .ok (.iconst 0, 1) := by decide +kernel
theorem dX3_readInto_14 : decode cX3_readInto 14 = .ok (.putfield 28, 3) := by decide +kernel
theorem dX3_readInto_17 : decode cX3_readInto 17 = .ok (.aload_n 0, 1) := by decide +kernel
theorem dX3_readInto_18 : decode cX3_readInto 18 = .ok (.invokevirtual 31, 3) := by decide +kernel
theorem dX3_readInto_21 : decode cX3_readInto 21 = .ok (.iconst 0, 1) := by decide +kernel
theorem dX3_readInto_22 : decode cX3_readInto 22 = .ok (.istore_n 2, 1) := by decide +kernel
theorem dX3_readInto_23 : decode cX3_readInto 23 = .ok (.iload_n 2, 1) := by decide +kernel
theorem dX3_readInto_24 : decode cX3_readInto 24 = .ok (.iconst 3, 1) := by decide +kernel
theorem dX3_readInto_25 : decode cX3_readInto 25 = .ok (.if_icmp .ge 65, 3) := by decide +kernel
theorem dX3_readInto_28 : decode cX3_readInto 28 = .ok (.aload_n 0, 1) := by decide +kernel
theorem dX3_readInto_29 : decode cX3_readInto 29 = .ok (.getfield 34, 3) := by decide +kernel
theorem dX3_readInto_32 : decode cX3_readInto 32 = .ok (.sipush 300, 3) := by decide +kernel
theorem dX3_readInto_35 : decode cX3_readInto 35 = .ok (.iload_n 2, 1) := by decide +kernel
theorem dX3_readInto_36 : decode cX3_readInto 36 = .ok (.iadd, 1) := by decide +kernel
theorem dX3_readInto_37 : decode cX3_readInto 37 = .ok (.if_icmp .eq 8, 3) := by decide +kernel
theorem dX3_readInto_40 : decode cX3_readInto 40 = .ok (.aload_n 0, 1) := by decide +kernel
theorem dX3_readInto_41 : decode cX3_readInto 41 = .ok (.getfield 37, 3) := by decide +kernel
theorem dX3_readInto_44 : decode cX3_readInto 44 = .ok (.ireturn, 1) := by decide +kernel
theorem dX3_readInto_45 : decode cX3_readInto 45 = .ok (.aload_n 0, 1) := by decide +kernel
theorem dX3_readInto_46 : decode cX3_readInto 46 = .ok (.invokevirtual 31, 3) := by decide +kernel
theorem dX3_readInto_49 : decode cX3_readInto 49 = .ok (.aload_n 0, 1) := by decide +kernel
theorem dX3_readInto_50 : decode cX3_readInto 50 = .ok (.iconst 0, 1) := by decide +kernel
theorem dX3_readInto_51 : decode cX3_readInto 51 = .ok (.iconst 0, 1) := by decide +kernel
theorem dX3_readInto_52 : decode cX3_readInto 52 = .ok (.invokevirtual 40, 3) := by decide +kernel
theorem dX3_readInto_55 : decode cX3_readInto 55 = .ok (.ifCond .eq 12, 3) := by decide +kernel
theorem dX3_readInto_58 : decode cX3_readInto 58 = .ok (.aload_n 0, 1) := by decide +kernel
theorem dX3_readInto_59 : decode cX3_readInto 59 = .ok (.getfield 34, 3) := by decide +kernel
theorem dX3_readInto_62 : decode cX3_readInto 62 = .ok (.bipush 59, 2) := by decide +kernel
theorem dX3_readInto_64 : decode cX3_readInto 64 = .ok (.if_icmp .eq 8, 3) := by decide +kernel
theorem dX3_readInto_67 : decode cX3_readInto 67 = .ok (.aload_n 0, 1) := by decide +kernel
theorem dX3_readInto_68 : decode cX3_readInto 68 = .ok (.getfield 37, 3) := by decide +kernel
theorem dX3_readInto_71 : decode cX3_readInto 71 = .ok (.ireturn, 1) := by decide +kernel
theorem dX3_readInto_72 : decode cX3_readInto 72 = .ok (.aload_n 0, 1) := by decide +kernel
theorem dX3_readInto_73 : decode cX3_readInto 73 = .ok (.getfield 19, 3) := by decide +kernel
theorem dX3_readInto_76 : decode cX3_readInto 76 = .ok (.iload_n 2, 1) := by decide +kernel
theorem dX3_readInto_77 : decode cX3_readInto 77 = .ok (.invokevirtual 44, 3) := by decide +kernel
theorem dX3_readInto_80 : decode cX3_readInto 80 = .ok (.aload_n 0, 1) := by decide +kernel
theorem dX3_readInto_81 : decode cX3_readInto 81 = .ok (.invokevirtual 31, 3) := by decide +kernel
theorem dX3_readInto_84 : decode cX3_readInto 84 = .ok (.iinc 2 1, 3) := by decide +kernel
theorem dX3_readInto_87 : decode cX3_readInto 87 = .ok (.goto (-64), 3) := by decide +kernel
theorem dX3_readInto_90 : decode cX3_readInto 90 = .ok (.aload_n 0, 1) := by decide +kernel
theorem dX3_readInto_91 : decode cX3_readInto 91 = .ok (.getfield 34, 3) := by decide +kernel
theorem dX3_readInto_94 : decode cX3_readInto 94 = .ok (.ifCond .ne 7, 3) := by decide +kernel
theorem dX3_readInto_97 : decode cX3_readInto 97 = .ok (.iconst (-1), 1) := by decide +kernel
theorem dX3_readInto_98 : decode cX3_readInto 98 = .ok (.goto 7, 3) := by decide +kernel
theorem dX3_readInto_101 : decode cX3_readInto 101 = .ok (.aload_n 0, 1) := by decide +kernel
theorem dX3_readInto_102 : decode cX3_readInto 102 = .ok (.getfield 37, 3) := by decide +kernel
theorem dX3_readInto_105 : decode cX3_readInto 105 = .ok (.ireturn, 1) := by decide +kernel
theorem dX3_chain_0 : decode cX3_chain 0 = .ok (.iload_n 1, 1) := by decide +kernel
theorem dX3_chain_1 : decode cX3_chain 1 = .ok (.iconst 5, 1) := by decide +kernel
theorem dX3_chain_2 : decode cX3_chain 2 = .ok (.if_icmp .lt 9, 3) := by decide +kernel
theorem dX3_chain_5 : decode cX3_chain 5 = .ok (.aload_n 0, 1) := by decide +kernel
theorem dX3_chain_6 : decode cX3_chain 6 = .ok (.iload_n 2, 1) := by decide +kernel
theorem dX3_chain_7 : decode cX3_chain 7 = .ok (.invokevirtual 48, 3) := by decide +kernel
theorem dX3_chain_10 : decode cX3_chain 10 = .ok (.ireturn, 1) := by decide +kernel
theorem dX3_chain_11 : decode cX3_chain 11 = .ok (.iload_n 1, 1) := by decide +kernel
theorem dX3_chain_12 : decode cX3_chain 12 = .ok (.iconst 2, 1) := by decide +kernel
theorem dX3_chain_13 : decode cX3_chain 13 = .ok (.if_icmp .ne 19, 3) := by decide +kernel
theorem dX3_chain_16 : decode cX3_chain 16 = .ok (.aload_n 0, 1) := by decide +kernel
theorem dX3_chain_17 : decode cX3_chain 17 = .ok (.getfield 34, 3) := by decide +kernel
theorem dX3_chain_20 : decode cX3_chain 20 = .ok (.sipush 305, 3) := by decide +kernel
theorem dX3_chain_23 : decode cX3_chain 23 = .ok (.if_icmp .ne 9, 3) := by decide +kernel
theorem dX3_chain_26 : decode cX3_chain 26 = .ok (.aload_n 0, 1) := by decide +kernel
theorem dX3_chain_27 : decode cX3_chain 27 = .ok (.iload_n 2, 1) := by decide +kernel
theorem dX3_chain_28 : decode cX3_chain 28 = .ok (.invokevirtual 52, 3) := by decide +kernel
theorem dX3_chain_31 : decode cX3_chain 31 = .ok (.ireturn, 1) := by decide +kernel
theorem dX3_chain_32 : decode cX3_chain 32 = .ok (.aload_n 0, 1) := by decide +kernel
theorem dX3_chain_33 : decode cX3_chain 33 = .ok (.iload_n 1, 1) := by decide +kernel
theorem dX3_chain_34 : decode cX3_chain 34 = .ok (.iconst 1, 1) := by decide +kernel
theorem dX3_chain_35 : decode cX3_chain 35 = .ok (.iadd, 1) := by decide +kernel
theorem dX3_chain_36 : decode cX3_chain 36 = .ok (.iload_n 2, 1) := by decide +kernel
theorem dX3_chain_37 : decode cX3_chain 37 = .ok (.invokevirtual 40, 3) := by decide +kernel
theorem dX3_chain_40 : decode cX3_chain 40 = .ok (.ifCond .ne 5, 3) := by decide +kernel
theorem dX3_chain_43 : decode cX3_chain 43 = .ok (.iconst 0, 1) := by decide +kernel
theorem dX3_chain_44 : decode cX3_chain 44 = .ok (.ireturn, 1) := by decide +kernel
theorem dX3_chain_45 : decode cX3_chain 45 = .ok (.iload_n 1, 1) := by decide +kernel
theorem dX3_chain_46 : decode cX3_chain 46 = .ok (.iconst 2, 1) := by decide +kernel
theorem dX3_chain_47 : decode cX3_chain 47 = .ok (.if_icmp .ne 7, 3) := by decide +kernel
theorem dX3_chain_50 : decode cX3_chain 50 = .ok (.iconst 1, 1) := by decide +kernel
theorem dX3_chain_51 : decode cX3_chain 51 = .ok (.goto 6, 3) := by decide +kernel
theorem dX3_chain_54 : decode cX3_chain 54 = .ok (.sipush 160, 3) := by decide +kernel
theorem dX3_chain_57 : decode cX3_chain 57 = .ok (.istore_n 3, 1) := by decide +kernel
theorem dX3_chain_58 : decode cX3_chain 58 = .ok (.iconst 0, 1) := by decide +kernel
theorem dX3_chain_59 : decode cX3_chain 59 = .ok (.istore 4, 2) := by decide +kernel
theorem dX3_chain_61 : decode cX3_chain 61 = .ok (.iload 4, 2) := by decide +kernel
theorem dX3_chain_63 : decode cX3_chain 63 = .ok (.iload_n 3, 1) := by decide +kernel
theorem dX3_chain_64 : decode cX3_chain 64 = .ok (.if_icmp .ge 53, 3) := by decide +kernel
theorem dX3_chain_67 : decode cX3_chain 67 = .ok (.iload_n 1, 1) := by decide +kernel
theorem dX3_chain_68 : decode cX3_chain 68 = .ok (.aload_n 0, 1) := by decide +kernel
theorem dX3_chain_69 : decode cX3_chain 69 = .ok (.getfield 34, 3) := by decide +kernel
theorem dX3_chain_72 : decode cX3_chain 72 = .ok (.invokestatic 55, 3) := by decide +kernel
theorem dX3_chain_75 : decode cX3_chain 75 = .ok (.ifCond .eq 42, 3) := by decide +kernel
theorem dX3_chain_78 : decode cX3_chain 78 = .ok (.aload_n 0, 1) := by decide +kernel
theorem dX3_chain_79 : decode cX3_chain 79 = .ok (.getfield 34, 3) := by decide +kernel
theorem dX3_chain_82 : decode cX3_chain 82 = .ok (.istore 5, 2) := by decide +kernel
theorem dX3_chain_84 : decode cX3_chain 84 = .ok (.aload_n 0, 1) := by decide +kernel
theorem dX3_chain_85 : decode cX3_chain 85 = .ok (.invokevirtual 31, 3) := by decide +kernel
theorem dX3_chain_88 : decode cX3_chain 88 = .ok (.aload_n 0, 1) := by decide +kernel
theorem dX3_chain_89 : decode cX3_chain 89 = .ok (.iload_n 1, 1) := by decide +kernel
theorem dX3_chain_90 : decode cX3_chain 90 = .ok (.iconst 1, 1) := by decide +kernel
theorem dX3_chain_91 : decode cX3_chain 91 = .ok (.iadd, 1) := by decide +kernel
theorem dX3_chain_92 : decode cX3_chain 92 = .ok (.iload_n 2, 1) := by decide +kernel
theorem dX3_chain_93 : decode cX3_chain 93 = .ok (.invokevirtual 40, 3) := by decide +kernel
theorem dX3_chain_96 : decode cX3_chain 96 = .ok (.ifCond .ne 5, 3) := by decide +kernel
theorem dX3_chain_99 : decode cX3_chain 99 = .ok (.iconst 0, 1) := by decide +kernel
theorem dX3_chain_100 : decode cX3_chain 100 = .ok (.ireturn, 1) := by decide +kernel
theorem dX3_chain_101 : decode cX3_chain 101 = .ok (.aload_n 0, 1) := by decide +kernel
theorem dX3_chain_102 : decode cX3_chain 102 = .ok (.getfield 19, 3) := by decide +kernel
theorem dX3_chain_105 : decode cX3_chain 105 = .ok (.iload 5, 2) := by decide +kernel
theorem dX3_chain_107 : decode cX3_chain 107 = .ok (.ineg, 1) := by decide +kernel
theorem dX3_chain_108 : decode cX3_chain 108 = .ok (.invokevirtual 58, 3) := by decide +kernel
theorem dX3_chain_111 : decode cX3_chain 111 = .ok (.iinc 4 1, 3) := by decide +kernel
theorem dX3_chain_114 : decode cX3_chain 114 = .ok (.goto (-53), 3) := by decide +kernel
theorem dX3_chain_117 : decode cX3_chain 117 = .ok (.iconst 1, 1) := by decide +kernel
theorem dX3_chain_118 : decode cX3_chain 118 = .ok (.ireturn, 1) := by decide +kernel
theorem dX3_joins_0 : decode cX3_joins 0 = .ok (.iload_n 0, 1) := by decide +kernel
theorem dX3_joins_1 : decode cX3_joins 1 = .ok (.tableswitch 93 0 3 #[31, 44, 57, 75], 31) := by decide +kernel
theorem dX3_joins_32 : decode cX3_joins 32 = .ok (.iload_n 1, 1) := by decide +kernel
theorem dX3_joins_33 : decode cX3_joins 33 = .ok (.sipush 303, 3) := by decide +kernel
theorem dX3_joins_36 : decode cX3_joins 36 = .ok (.if_icmp .ne 7, 3) := by decide +kernel
theorem dX3_joins_39 : decode cX3_joins 39 = .ok (.iconst 1, 1) := by decide +kernel
theorem dX3_joins_40 : decode cX3_joins 40 = .ok (.goto 4, 3) := by decide +kernel
theorem dX3_joins_43 : decode cX3_joins 43 = .ok (.iconst 0, 1) := by decide +kernel
theorem dX3_joins_44 : decode cX3_joins 44 = .ok (.ireturn, 1) := by decide +kernel
theorem dX3_joins_45 : decode cX3_joins 45 = .ok (.iload_n 1, 1) := by decide +kernel
theorem dX3_joins_46 : decode cX3_joins 46 = .ok (.sipush 304, 3) := by decide +kernel
theorem dX3_joins_49 : decode cX3_joins 49 = .ok (.if_icmp .ne 7, 3) := by decide +kernel
theorem dX3_joins_52 : decode cX3_joins 52 = .ok (.iconst 1, 1) := by decide +kernel
theorem dX3_joins_53 : decode cX3_joins 53 = .ok (.goto 4, 3) := by decide +kernel
theorem dX3_joins_56 : decode cX3_joins 56 = .ok (.iconst 0, 1) := by decide +kernel
theorem dX3_joins_57 : decode cX3_joins 57 = .ok (.ireturn, 1) := by decide +kernel
theorem dX3_joins_58 : decode cX3_joins 58 = .ok (.iload_n 1, 1) := by decide +kernel
theorem dX3_joins_59 : decode cX3_joins 59 = .ok (.bipush 60, 2) := by decide +kernel
theorem dX3_joins_61 : decode cX3_joins 61 = .ok (.if_icmp .eq 9, 3) := by decide +kernel
theorem dX3_joins_64 : decode cX3_joins 64 = .ok (.iload_n 1, 1) := by decide +kernel
theorem dX3_joins_65 : decode cX3_joins 65 = .ok (.bipush 61, 2) := by decide +kernel
theorem dX3_joins_67 : decode cX3_joins 67 = .ok (.if_icmp .ne 7, 3) := by decide +kernel
theorem dX3_joins_70 : decode cX3_joins 70 = .ok (.iconst 1, 1) := by decide +kernel
theorem dX3_joins_71 : decode cX3_joins 71 = .ok (.goto 4, 3) := by decide +kernel
theorem dX3_joins_74 : decode cX3_joins 74 = .ok (.iconst 0, 1) := by decide +kernel
theorem dX3_joins_75 : decode cX3_joins 75 = .ok (.ireturn, 1) := by decide +kernel
theorem dX3_joins_76 : decode cX3_joins 76 = .ok (.iload_n 1, 1) := by decide +kernel
theorem dX3_joins_77 : decode cX3_joins 77 = .ok (.bipush 43, 2) := by decide +kernel
theorem dX3_joins_79 : decode cX3_joins 79 = .ok (.if_icmp .eq 9, 3) := by decide +kernel
theorem dX3_joins_82 : decode cX3_joins 82 = .ok (.iload_n 1, 1) := by decide +kernel
theorem dX3_joins_83 : decode cX3_joins 83 = .ok (.bipush 45, 2) := by decide +kernel
theorem dX3_joins_85 : decode cX3_joins 85 = .ok (.if_icmp .ne 7, 3) := by decide +kernel
theorem dX3_joins_88 : decode cX3_joins 88 = .ok (.iconst 1, 1) := by decide +kernel
theorem dX3_joins_89 : decode cX3_joins 89 = .ok (.goto 4, 3) := by decide +kernel
theorem dX3_joins_92 : decode cX3_joins 92 = .ok (.iconst 0, 1) := by decide +kernel
theorem dX3_joins_93 : decode cX3_joins 93 = .ok (.ireturn, 1) := by decide +kernel
theorem dX3_joins_94 : decode cX3_joins 94 = .ok (.iload_n 1, 1) := by decide +kernel
theorem dX3_joins_95 : decode cX3_joins 95 = .ok (.bipush 42, 2) := by decide +kernel
theorem dX3_joins_97 : decode cX3_joins 97 = .ok (.if_icmp .ne 7, 3) := by decide +kernel
theorem dX3_joins_100 : decode cX3_joins 100 = .ok (.iconst 1, 1) := by decide +kernel
theorem dX3_joins_101 : decode cX3_joins 101 = .ok (.goto 4, 3) := by decide +kernel
theorem dX3_joins_104 : decode cX3_joins 104 = .ok (.iconst 0, 1) := by decide +kernel
theorem dX3_joins_105 : decode cX3_joins 105 = .ok (.ireturn, 1) := by decide +kernel
theorem dX3_negation_0 : decode cX3_negation 0 = .ok (.iload_n 1, 1) := by decide +kernel
theorem dX3_negation_1 : decode cX3_negation 1 = .ok (.iconst 5, 1) := by decide +kernel
theorem dX3_negation_2 : decode cX3_negation 2 = .ok (.if_icmp .lt 5, 3) := by decide +kernel
theorem dX3_negation_5 : decode cX3_negation 5 = .ok (.iconst 0, 1) := by decide +kernel
theorem dX3_negation_6 : decode cX3_negation 6 = .ok (.ireturn, 1) := by decide +kernel
theorem dX3_negation_7 : decode cX3_negation 7 = .ok (.aload_n 0, 1) := by decide +kernel
theorem dX3_negation_8 : decode cX3_negation 8 = .ok (.invokevirtual 31, 3) := by decide +kernel
theorem dX3_negation_11 : decode cX3_negation 11 = .ok (.aload_n 0, 1) := by decide +kernel
theorem dX3_negation_12 : decode cX3_negation 12 = .ok (.iconst 2, 1) := by decide +kernel
theorem dX3_negation_13 : decode cX3_negation 13 = .ok (.iload_n 1, 1) := by decide +kernel
theorem dX3_negation_14 : decode cX3_negation 14 = .ok (.iconst 1, 1) := by decide +kernel
theorem dX3_negation_15 : decode cX3_negation 15 = .ok (.iadd, 1) := by decide +kernel
theorem dX3_negation_16 : decode cX3_negation 16 = .ok (.invokevirtual 40, 3) := by decide +kernel
theorem dX3_negation_19 : decode cX3_negation 19 = .ok (.ifCond .ne 5, 3) := by decide +kernel
theorem dX3_negation_22 : decode cX3_negation 22 = .ok (.iconst 0, 1) := by decide +kernel
theorem dX3_negation_23 : decode cX3_negation 23 = .ok (.ireturn, 1) := by decide +kernel
theorem dX3_negation_24 : decode cX3_negation 24 = .ok (.aload_n 0, 1) := by decide +kernel
theorem dX3_negation_25 : decode cX3_negation 25 = .ok (.getfield 19, 3) := by decide +kernel
theorem dX3_negation_28 : decode cX3_negation 28 = .ok (.sipush (-305), 3) := by decide +kernel
theorem dX3_negation_31 : decode cX3_negation 31 = .ok (.invokevirtual 58, 3) := by decide +kernel
theorem dX3_negation_34 : decode cX3_negation 34 = .ok (.iconst 1, 1) := by decide +kernel
theorem dX3_negation_35 : decode cX3_negation 35 = .ok (.ireturn, 1) := by decide +kernel
theorem dX3_one_0 : decode cX3_one 0 = .ok (.aload_n 0, 1) := by decide +kernel
theorem dX3_one_1 : decode cX3_one 1 = .ok (.getfield 34, 3) := by decide +kernel
theorem dX3_one_4 : decode cX3_one 4 = .ok (.iconst 2, 1) := by decide +kernel
theorem dX3_one_5 : decode cX3_one 5 = .ok (.if_icmp .ne 17, 3) := by decide +kernel
theorem dX3_one_8 : decode cX3_one 8 = .ok (.aload_n 0, 1) := by decide +kernel
theorem dX3_one_9 : decode cX3_one 9 = .ok (.getfield 19, 3) := by decide +kernel
theorem dX3_one_12 : decode cX3_one 12 = .ok (.aload_n 0, 1) := by decide +kernel
theorem dX3_one_13 : decode cX3_one 13 = .ok (.getfield 61, 3) := by decide +kernel
theorem dX3_one_16 : decode cX3_one 16 = .ok (.invokevirtual 58, 3) := by decide +kernel
theorem dX3_one_19 : decode cX3_one 19 = .ok (.goto 73, 3) := by decide +kernel
theorem dX3_one_22 : decode cX3_one 22 = .ok (.aload_n 0, 1) := by decide +kernel
theorem dX3_one_23 : decode cX3_one 23 = .ok (.getfield 34, 3) := by decide +kernel
theorem dX3_one_26 : decode cX3_one 26 = .ok (.sipush 306, 3) := by decide +kernel
theorem dX3_one_29 : decode cX3_one 29 = .ok (.sipush 311, 3) := by decide +kernel
theorem dX3_one_32 : decode cX3_one 32 = .ok (.invokestatic 64, 3) := by decide +kernel
theorem dX3_one_35 : decode cX3_one 35 = .ok (.ifCond .eq 18, 3) := by decide +kernel
theorem dX3_one_38 : decode cX3_one 38 = .ok (.aload_n 0, 1) := by decide +kernel
theorem dX3_one_39 : decode cX3_one 39 = .ok (.getfield 19, 3) := by decide +kernel
theorem dX3_one_42 : decode cX3_one 42 = .ok (.aload_n 0, 1) := by decide +kernel
theorem dX3_one_43 : decode cX3_one 43 = .ok (.getfield 34, 3) := by decide +kernel
theorem dX3_one_46 : decode cX3_one 46 = .ok (.ineg, 1) := by decide +kernel
theorem dX3_one_47 : decode cX3_one 47 = .ok (.invokevirtual 58, 3) := by decide +kernel
theorem dX3_one_50 : decode cX3_one 50 = .ok (.goto 42, 3) := by decide +kernel
theorem dX3_one_53 : decode cX3_one 53 = .ok (.aload_n 0, 1) := by decide +kernel
theorem dX3_one_54 : decode cX3_one 54 = .ok (.getfield 34, 3) := by decide +kernel
theorem dX3_one_57 : decode cX3_one 57 = .ok (.bipush 45, 2) := by decide +kernel
theorem dX3_one_59 : decode cX3_one 59 = .ok (.if_icmp .eq 12, 3) := by decide +kernel
theorem dX3_one_62 : decode cX3_one 62 = .ok (.aload_n 0, 1) := by decide +kernel
theorem dX3_one_63 : decode cX3_one 63 = .ok (.getfield 34, 3) := by decide +kernel
theorem dX3_one_66 : decode cX3_one 66 = .ok (.bipush 40, 2) := by decide +kernel
theorem dX3_one_68 : decode cX3_one 68 = .ok (.if_icmp .ne 22, 3) := by decide +kernel
theorem dX3_one_71 : decode cX3_one 71 = .ok (.iload_n 1, 1) := by decide +kernel
theorem dX3_one_72 : decode cX3_one 72 = .ok (.iconst 5, 1) := by decide +kernel
theorem dX3_one_73 : decode cX3_one 73 = .ok (.if_icmp .ge 17, 3) := by decide +kernel
theorem dX3_one_76 : decode cX3_one 76 = .ok (.aload_n 0, 1) := by decide +kernel
theorem dX3_one_77 : decode cX3_one 77 = .ok (.iload_n 1, 1) := by decide +kernel
theorem dX3_one_78 : decode cX3_one 78 = .ok (.iconst 1, 1) := by decide +kernel
theorem dX3_one_79 : decode cX3_one 79 = .ok (.iadd, 1) := by decide +kernel
theorem dX3_one_80 : decode cX3_one 80 = .ok (.invokevirtual 68, 3) := by decide +kernel
theorem dX3_one_83 : decode cX3_one 83 = .ok (.ifCond .eq 7, 3) := by decide +kernel
theorem dX3_one_86 : decode cX3_one 86 = .ok (.iconst 1, 1) := by decide +kernel
theorem dX3_one_87 : decode cX3_one 87 = .ok (.goto 4, 3) := by decide +kernel
theorem dX3_one_90 : decode cX3_one 90 = .ok (.iconst 0, 1) := by decide +kernel
theorem dX3_one_91 : decode cX3_one 91 = .ok (.ireturn, 1) := by decide +kernel
theorem dX3_one_92 : decode cX3_one 92 = .ok (.aload_n 0, 1) := by decide +kernel
theorem dX3_one_93 : decode cX3_one 93 = .ok (.invokevirtual 31, 3) := by decide +kernel
theorem dX3_one_96 : decode cX3_one 96 = .ok (.iconst 1, 1) := by decide +kernel
theorem dX3_one_97 : decode cX3_one 97 = .ok (.ireturn, 1) := by decide +kernel
theorem dX3_opened_0 : decode cX3_opened 0 = .ok (.aload_n 0, 1) := by decide +kernel
theorem dX3_opened_1 : decode cX3_opened 1 = .ok (.getfield 34, 3) := by decide +kernel
theorem dX3_opened_4 : decode cX3_opened 4 = .ok (.bipush 45, 2) := by decide +kernel
theorem dX3_opened_6 : decode cX3_opened 6 = .ok (.if_icmp .ne 7, 3) := by decide +kernel
theorem dX3_opened_9 : decode cX3_opened 9 = .ok (.iconst 1, 1) := by decide +kernel
theorem dX3_opened_10 : decode cX3_opened 10 = .ok (.goto 4, 3) := by decide +kernel
theorem dX3_opened_13 : decode cX3_opened 13 = .ok (.iconst 0, 1) := by decide +kernel
theorem dX3_opened_14 : decode cX3_opened 14 = .ok (.istore_n 2, 1) := by decide +kernel
theorem dX3_opened_15 : decode cX3_opened 15 = .ok (.aload_n 0, 1) := by decide +kernel
theorem dX3_opened_16 : decode cX3_opened 16 = .ok (.invokevirtual 31, 3) := by decide +kernel
theorem dX3_opened_19 : decode cX3_opened 19 = .ok (.iload_n 2, 1) := by decide +kernel
theorem dX3_opened_20 : decode cX3_opened 20 = .ok (.ifCond .eq 24, 3) := by decide +kernel
theorem dX3_opened_23 : decode cX3_opened 23 = .ok (.aload_n 0, 1) := by decide +kernel
theorem dX3_opened_24 : decode cX3_opened 24 = .ok (.iload_n 1, 1) := by decide +kernel
theorem dX3_opened_25 : decode cX3_opened 25 = .ok (.invokevirtual 48, 3) := by decide +kernel
theorem dX3_opened_28 : decode cX3_opened 28 = .ok (.ifCond .ne 5, 3) := by decide +kernel
theorem dX3_opened_31 : decode cX3_opened 31 = .ok (.iconst 0, 1) := by decide +kernel
theorem dX3_opened_32 : decode cX3_opened 32 = .ok (.ireturn, 1) := by decide +kernel
theorem dX3_opened_33 : decode cX3_opened 33 = .ok (.aload_n 0, 1) := by decide +kernel
theorem dX3_opened_34 : decode cX3_opened 34 = .ok (.getfield 19, 3) := by decide +kernel
theorem dX3_opened_37 : decode cX3_opened 37 = .ok (.bipush (-3), 2) := by decide +kernel
theorem dX3_opened_39 : decode cX3_opened 39 = .ok (.invokevirtual 58, 3) := by decide +kernel
theorem dX3_opened_42 : decode cX3_opened 42 = .ok (.iconst 1, 1) := by decide +kernel
theorem dX3_opened_43 : decode cX3_opened 43 = .ok (.ireturn, 1) := by decide +kernel
theorem dX3_opened_44 : decode cX3_opened 44 = .ok (.aload_n 0, 1) := by decide +kernel
theorem dX3_opened_45 : decode cX3_opened 45 = .ok (.iconst 0, 1) := by decide +kernel
theorem dX3_opened_46 : decode cX3_opened 46 = .ok (.iload_n 1, 1) := by decide +kernel
theorem dX3_opened_47 : decode cX3_opened 47 = .ok (.invokevirtual 40, 3) := by decide +kernel
theorem dX3_opened_50 : decode cX3_opened 50 = .ok (.ifCond .eq 12, 3) := by decide +kernel
theorem dX3_opened_53 : decode cX3_opened 53 = .ok (.aload_n 0, 1) := by decide +kernel
theorem dX3_opened_54 : decode cX3_opened 54 = .ok (.getfield 34, 3) := by decide +kernel
theorem dX3_opened_57 : decode cX3_opened 57 = .ok (.bipush 41, 2) := by decide +kernel
theorem dX3_opened_59 : decode cX3_opened 59 = .ok (.if_icmp .eq 5, 3) := by decide +kernel
theorem dX3_opened_62 : decode cX3_opened 62 = .ok (.iconst 0, 1) := by decide +kernel
theorem dX3_opened_63 : decode cX3_opened 63 = .ok (.ireturn, 1) := by decide +kernel
theorem dX3_opened_64 : decode cX3_opened 64 = .ok (.aload_n 0, 1) := by decide +kernel
theorem dX3_opened_65 : decode cX3_opened 65 = .ok (.invokevirtual 31, 3) := by decide +kernel
theorem dX3_opened_68 : decode cX3_opened 68 = .ok (.iconst 1, 1) := by decide +kernel
theorem dX3_opened_69 : decode cX3_opened 69 = .ok (.ireturn, 1) := by decide +kernel
theorem dX3_advance_0 : decode cX3_advance 0 = .ok (.aload_n 0, 1) := by decide +kernel
theorem dX3_advance_1 : decode cX3_advance 1 = .ok (.getfield 28, 3) := by decide +kernel
theorem dX3_advance_4 : decode cX3_advance 4 = .ok (.istore_n 1, 1) := by decide +kernel
theorem dX3_advance_5 : decode cX3_advance 5 = .ok (.iload_n 1, 1) := by decide +kernel
theorem dX3_advance_6 : decode cX3_advance 6 = .ok (.aload_n 0, 1) := by decide +kernel
theorem dX3_advance_7 : decode cX3_advance 7 = .ok (.getfield 15, 3) := by decide +kernel
theorem dX3_advance_10 : decode cX3_advance 10 = .ok (.if_icmp .ge 31, 3) := by decide +kernel
theorem dX3_advance_13 : decode cX3_advance 13 = .ok (.aload_n 0, 1) := by decide +kernel
theorem dX3_advance_14 : decode cX3_advance 14 = .ok (.getfield 9, 3) := by decide +kernel
theorem dX3_advance_17 : decode cX3_advance 17 = .ok (.iload_n 1, 1) := by decide +kernel
theorem dX3_advance_18 : decode cX3_advance 18 = .ok (.iaload, 1) := by decide +kernel
theorem dX3_advance_19 : decode cX3_advance 19 = .ok (.bipush 32, 2) := by decide +kernel
theorem dX3_advance_21 : decode cX3_advance 21 = .ok (.if_icmp .eq 14, 3) := by decide +kernel
theorem dX3_advance_24 : decode cX3_advance 24 = .ok (.aload_n 0, 1) := by decide +kernel
theorem dX3_advance_25 : decode cX3_advance 25 = .ok (.getfield 9, 3) := by decide +kernel
theorem dX3_advance_28 : decode cX3_advance 28 = .ok (.iload_n 1, 1) := by decide +kernel
theorem dX3_advance_29 : decode cX3_advance 29 = .ok (.iaload, 1) := by decide +kernel
theorem dX3_advance_30 : decode cX3_advance 30 = .ok (.bipush 10, 2) := by decide +kernel
theorem dX3_advance_32 : decode cX3_advance 32 = .ok (.if_icmp .ne 9, 3) := by decide +kernel
theorem dX3_advance_35 : decode cX3_advance 35 = .ok (.iinc 1 1, 3) := by decide +kernel
theorem dX3_advance_38 : decode cX3_advance 38 = .ok (.goto (-33), 3) := by decide +kernel
theorem dX3_advance_41 : decode cX3_advance 41 = .ok (.aload_n 0, 1) := by decide +kernel
theorem dX3_advance_42 : decode cX3_advance 42 = .ok (.iload_n 1, 1) := by decide +kernel
theorem dX3_advance_43 : decode cX3_advance 43 = .ok (.putfield 37, 3) := by decide +kernel
theorem dX3_advance_46 : decode cX3_advance 46 = .ok (.iload_n 1, 1) := by decide +kernel
theorem dX3_advance_47 : decode cX3_advance 47 = .ok (.aload_n 0, 1) := by decide +kernel
theorem dX3_advance_48 : decode cX3_advance 48 = .ok (.getfield 15, 3) := by decide +kernel
theorem dX3_advance_51 : decode cX3_advance 51 = .ok (.if_icmp .lt 11, 3) := by decide +kernel
theorem dX3_advance_54 : decode cX3_advance 54 = .ok (.aload_n 0, 1) := by decide +kernel
theorem dX3_advance_55 : decode cX3_advance 55 = .ok (.iconst 0, 1) := by decide +kernel
theorem dX3_advance_56 : decode cX3_advance 56 = .ok (.putfield 34, 3) := by decide +kernel
theorem dX3_advance_59 : decode cX3_advance 59 = .ok (.goto 168, 3) := by decide +kernel
theorem dX3_advance_62 : decode cX3_advance 62 = .ok (.aload_n 0, 1) := by decide +kernel
theorem dX3_advance_63 : decode cX3_advance 63 = .ok (.getfield 9, 3) := by decide +kernel
theorem dX3_advance_66 : decode cX3_advance 66 = .ok (.iload_n 1, 1) := by decide +kernel
theorem dX3_advance_67 : decode cX3_advance 67 = .ok (.iaload, 1) := by decide +kernel
theorem dX3_advance_68 : decode cX3_advance 68 = .ok (.invokestatic 71, 3) := by decide +kernel
theorem dX3_advance_71 : decode cX3_advance 71 = .ok (.ifCond .eq 41, 3) := by decide +kernel
theorem dX3_advance_74 : decode cX3_advance 74 = .ok (.iload_n 1, 1) := by decide +kernel
theorem dX3_advance_75 : decode cX3_advance 75 = .ok (.aload_n 0, 1) := by decide +kernel
theorem dX3_advance_76 : decode cX3_advance 76 = .ok (.getfield 15, 3) := by decide +kernel
theorem dX3_advance_79 : decode cX3_advance 79 = .ok (.if_icmp .ge 21, 3) := by decide +kernel
theorem dX3_advance_82 : decode cX3_advance 82 = .ok (.aload_n 0, 1) := by decide +kernel
theorem dX3_advance_83 : decode cX3_advance 83 = .ok (.getfield 9, 3) := by decide +kernel
theorem dX3_advance_86 : decode cX3_advance 86 = .ok (.iload_n 1, 1) := by decide +kernel
theorem dX3_advance_87 : decode cX3_advance 87 = .ok (.iaload, 1) := by decide +kernel
theorem dX3_advance_88 : decode cX3_advance 88 = .ok (.invokestatic 71, 3) := by decide +kernel
theorem dX3_advance_91 : decode cX3_advance 91 = .ok (.ifCond .eq 9, 3) := by decide +kernel
theorem dX3_advance_94 : decode cX3_advance 94 = .ok (.iinc 1 1, 3) := by decide +kernel
theorem dX3_advance_97 : decode cX3_advance 97 = .ok (.goto (-23), 3) := by decide +kernel
theorem dX3_advance_100 : decode cX3_advance 100 = .ok (.aload_n 0, 1) := by decide +kernel
theorem dX3_advance_101 : decode cX3_advance 101 = .ok (.aload_n 0, 1) := by decide +kernel
theorem dX3_advance_102 : decode cX3_advance 102 = .ok (.iload_n 1, 1) := by decide +kernel
theorem dX3_advance_103 : decode cX3_advance 103 = .ok (.invokevirtual 74, 3) := by decide +kernel
theorem dX3_advance_106 : decode cX3_advance 106 = .ok (.putfield 34, 3) := by decide +kernel
theorem dX3_advance_109 : decode cX3_advance 109 = .ok (.goto 118, 3) := by decide +kernel
theorem dX3_advance_112 : decode cX3_advance 112 = .ok (.aload_n 0, 1) := by decide +kernel
theorem dX3_advance_113 : decode cX3_advance 113 = .ok (.getfield 9, 3) := by decide +kernel
theorem dX3_advance_116 : decode cX3_advance 116 = .ok (.iload_n 1, 1) := by decide +kernel
theorem dX3_advance_117 : decode cX3_advance 117 = .ok (.iaload, 1) := by decide +kernel
theorem dX3_advance_118 : decode cX3_advance 118 = .ok (.invokestatic 78, 3) := by decide +kernel
theorem dX3_advance_121 : decode cX3_advance 121 = .ok (.ifCond .eq 77, 3) := by decide +kernel
theorem dX3_advance_124 : decode cX3_advance 124 = .ok (.aload_n 0, 1) := by decide +kernel
theorem dX3_advance_125 : decode cX3_advance 125 = .ok (.iconst 0, 1) := by decide +kernel
theorem dX3_advance_126 : decode cX3_advance 126 = .ok (.putfield 61, 3) := by decide +kernel
theorem dX3_advance_129 : decode cX3_advance 129 = .ok (.iload_n 1, 1) := by decide +kernel
theorem dX3_advance_130 : decode cX3_advance 130 = .ok (.aload_n 0, 1) := by decide +kernel
theorem dX3_advance_131 : decode cX3_advance 131 = .ok (.getfield 15, 3) := by decide +kernel
theorem dX3_advance_134 : decode cX3_advance 134 = .ok (.if_icmp .ge 42, 3) := by decide +kernel
theorem dX3_advance_137 : decode cX3_advance 137 = .ok (.aload_n 0, 1) := by decide +kernel
theorem dX3_advance_138 : decode cX3_advance 138 = .ok (.getfield 9, 3) := by decide +kernel
theorem dX3_advance_141 : decode cX3_advance 141 = .ok (.iload_n 1, 1) := by decide +kernel
theorem dX3_advance_142 : decode cX3_advance 142 = .ok (.iaload, 1) := by decide +kernel
theorem dX3_advance_143 : decode cX3_advance 143 = .ok (.invokestatic 78, 3) := by decide +kernel
theorem dX3_advance_146 : decode cX3_advance 146 = .ok (.ifCond .eq 30, 3) := by decide +kernel
theorem dX3_advance_149 : decode cX3_advance 149 = .ok (.aload_n 0, 1) := by decide +kernel
theorem dX3_advance_150 : decode cX3_advance 150 = .ok (.aload_n 0, 1) := by decide +kernel
theorem dX3_advance_151 : decode cX3_advance 151 = .ok (.getfield 61, 3) := by decide +kernel
theorem dX3_advance_154 : decode cX3_advance 154 = .ok (.bipush 10, 2) := by decide +kernel
theorem dX3_advance_156 : decode cX3_advance 156 = .ok (.imul, 1) := by decide +kernel
theorem dX3_advance_157 : decode cX3_advance 157 = .ok (.aload_n 0, 1) := by decide +kernel
theorem dX3_advance_158 : decode cX3_advance 158 = .ok (.getfield 9, 3) := by decide +kernel
theorem dX3_advance_161 : decode cX3_advance 161 = .ok (.iload_n 1, 1) := by decide +kernel
theorem dX3_advance_162 : decode cX3_advance 162 = .ok (.iaload, 1) := by decide +kernel
theorem dX3_advance_163 : decode cX3_advance 163 = .ok (.iadd, 1) := by decide +kernel
theorem dX3_advance_164 : decode cX3_advance 164 = .ok (.bipush 48, 2) := by decide +kernel
theorem dX3_advance_166 : decode cX3_advance 166 = .ok (.isub, 1) := by decide +kernel
theorem dX3_advance_167 : decode cX3_advance 167 = .ok (.putfield 61, 3) := by decide +kernel
theorem dX3_advance_170 : decode cX3_advance 170 = .ok (.iinc 1 1, 3) := by decide +kernel
theorem dX3_advance_173 : decode cX3_advance 173 = .ok (.goto (-44), 3) := by decide +kernel
theorem dX3_advance_176 : decode cX3_advance 176 = .ok (.aload_n 0, 1) := by decide +kernel
theorem dX3_advance_177 : decode cX3_advance 177 = .ok (.iload_n 1, 1) := by decide +kernel
theorem dX3_advance_178 : decode cX3_advance 178 = .ok (.aload_n 0, 1) := by decide +kernel
theorem dX3_advance_179 : decode cX3_advance 179 = .ok (.getfield 37, 3) := by decide +kernel
theorem dX3_advance_182 : decode cX3_advance 182 = .ok (.isub, 1) := by decide +kernel
theorem dX3_advance_183 : decode cX3_advance 183 = .ok (.iconst 4, 1) := by decide +kernel
theorem dX3_advance_184 : decode cX3_advance 184 = .ok (.if_icmp .le 7, 3) := by decide +kernel
theorem dX3_advance_187 : decode cX3_advance 187 = .ok (.iconst 1, 1) := by decide +kernel
theorem dX3_advance_188 : decode cX3_advance 188 = .ok (.goto 4, 3) := by decide +kernel
theorem dX3_advance_191 : decode cX3_advance 191 = .ok (.iconst 2, 1) := by decide +kernel
theorem dX3_advance_192 : decode cX3_advance 192 = .ok (.putfield 34, 3) := by decide +kernel
theorem dX3_advance_195 : decode cX3_advance 195 = .ok (.goto 32, 3) := by decide +kernel
theorem dX3_advance_198 : decode cX3_advance 198 = .ok (.aload_n 0, 1) := by decide +kernel
theorem dX3_advance_199 : decode cX3_advance 199 = .ok (.aload_n 0, 1) := by decide +kernel
theorem dX3_advance_200 : decode cX3_advance 200 = .ok (.getfield 9, 3) := by decide +kernel
theorem dX3_advance_203 : decode cX3_advance 203 = .ok (.iload_n 1, 1) := by decide +kernel
theorem dX3_advance_204 : decode cX3_advance 204 = .ok (.iaload, 1) := by decide +kernel
theorem dX3_advance_205 : decode cX3_advance 205 = .ok (.invokestatic 81, 3) := by decide +kernel
theorem dX3_advance_208 : decode cX3_advance 208 = .ok (.ifCond .eq 12, 3) := by decide +kernel
theorem dX3_advance_211 : decode cX3_advance 211 = .ok (.aload_n 0, 1) := by decide +kernel
theorem dX3_advance_212 : decode cX3_advance 212 = .ok (.getfield 9, 3) := by decide +kernel
theorem dX3_advance_215 : decode cX3_advance 215 = .ok (.iload_n 1, 1) := by decide +kernel
theorem dX3_advance_216 : decode cX3_advance 216 = .ok (.iaload, 1) := by decide +kernel
theorem dX3_advance_217 : decode cX3_advance 217 = .ok (.goto 4, 3) := by decide +kernel
theorem dX3_advance_220 : decode cX3_advance 220 = .ok (.iconst 1, 1) := by decide +kernel
theorem dX3_advance_221 : decode cX3_advance 221 = .ok (.putfield 34, 3) := by decide +kernel
theorem dX3_advance_224 : decode cX3_advance 224 = .ok (.iinc 1 1, 3) := by decide +kernel
theorem dX3_advance_227 : decode cX3_advance 227 = .ok (.aload_n 0, 1) := by decide +kernel
theorem dX3_advance_228 : decode cX3_advance 228 = .ok (.iload_n 1, 1) := by decide +kernel
theorem dX3_advance_229 : decode cX3_advance 229 = .ok (.putfield 28, 3) := by decide +kernel
theorem dX3_advance_232 : decode cX3_advance 232 = .ok (.return_, 1) := by decide +kernel
theorem dX3_isLetter_0 : decode cX3_isLetter 0 = .ok (.iload_n 0, 1) := by decide +kernel
theorem dX3_isLetter_1 : decode cX3_isLetter 1 = .ok (.bipush 97, 2) := by decide +kernel
theorem dX3_isLetter_3 : decode cX3_isLetter 3 = .ok (.bipush 122, 2) := by decide +kernel
theorem dX3_isLetter_5 : decode cX3_isLetter 5 = .ok (.invokestatic 64, 3) := by decide +kernel
theorem dX3_isLetter_8 : decode cX3_isLetter 8 = .ok (.ireturn, 1) := by decide +kernel
theorem dX3_isDigit_0 : decode cX3_isDigit 0 = .ok (.iload_n 0, 1) := by decide +kernel
theorem dX3_isDigit_1 : decode cX3_isDigit 1 = .ok (.bipush 48, 2) := by decide +kernel
theorem dX3_isDigit_3 : decode cX3_isDigit 3 = .ok (.bipush 57, 2) := by decide +kernel
theorem dX3_isDigit_5 : decode cX3_isDigit 5 = .ok (.invokestatic 64, 3) := by decide +kernel
theorem dX3_isDigit_8 : decode cX3_isDigit 8 = .ok (.ireturn, 1) := by decide +kernel
theorem dX3_isSign_0 : decode cX3_isSign 0 = .ok (.iload_n 0, 1) := by decide +kernel
theorem dX3_isSign_1 : decode cX3_isSign 1 = .ok (.bipush 40, 2) := by decide +kernel
theorem dX3_isSign_3 : decode cX3_isSign 3 = .ok (.bipush 43, 2) := by decide +kernel
theorem dX3_isSign_5 : decode cX3_isSign 5 = .ok (.invokestatic 64, 3) := by decide +kernel
theorem dX3_isSign_8 : decode cX3_isSign 8 = .ok (.ifCond .ne 20, 3) := by decide +kernel
theorem dX3_isSign_11 : decode cX3_isSign 11 = .ok (.iload_n 0, 1) := by decide +kernel
theorem dX3_isSign_12 : decode cX3_isSign 12 = .ok (.bipush 59, 2) := by decide +kernel
theorem dX3_isSign_14 : decode cX3_isSign 14 = .ok (.bipush 61, 2) := by decide +kernel
theorem dX3_isSign_16 : decode cX3_isSign 16 = .ok (.invokestatic 64, 3) := by decide +kernel
theorem dX3_isSign_19 : decode cX3_isSign 19 = .ok (.ifCond .ne 9, 3) := by decide +kernel
theorem dX3_isSign_22 : decode cX3_isSign 22 = .ok (.iload_n 0, 1) := by decide +kernel
theorem dX3_isSign_23 : decode cX3_isSign 23 = .ok (.bipush 45, 2) := by decide +kernel
theorem dX3_isSign_25 : decode cX3_isSign 25 = .ok (.if_icmp .ne 7, 3) := by decide +kernel
theorem dX3_isSign_28 : decode cX3_isSign 28 = .ok (.iconst 1, 1) := by decide +kernel
theorem dX3_isSign_29 : decode cX3_isSign 29 = .ok (.goto 4, 3) := by decide +kernel
theorem dX3_isSign_32 : decode cX3_isSign 32 = .ok (.iconst 0, 1) := by decide +kernel
theorem dX3_isSign_33 : decode cX3_isSign 33 = .ok (.ireturn, 1) := by decide +kernel
theorem dX3_wordToken_0 : decode cX3_wordToken 0 = .ok (.sipush 300, 3) := by decide +kernel
theorem dX3_wordToken_3 : decode cX3_wordToken 3 = .ok (.istore_n 2, 1) := by decide +kernel
theorem dX3_wordToken_4 : decode cX3_wordToken 4 = .ok (.iconst 0, 1) := by decide +kernel
theorem dX3_wordToken_5 : decode cX3_wordToken 5 = .ok (.istore_n 3, 1) := by decide +kernel
theorem dX3_wordToken_6 : decode cX3_wordToken 6 = .ok (.iload_n 3, 1) := by decide +kernel
theorem dX3_wordToken_7 : decode cX3_wordToken 7 = .ok (.ldc 84, 2) := by decide +kernel
theorem dX3_wordToken_9 : decode cX3_wordToken 9 = .ok (.invokevirtual 86, 3) := by decide +kernel
theorem dX3_wordToken_12 : decode cX3_wordToken 12 = .ok (.if_icmp .ge 36, 3) := by decide +kernel
theorem dX3_wordToken_15 : decode cX3_wordToken 15 = .ok (.ldc 84, 2) := by decide +kernel
theorem dX3_wordToken_17 : decode cX3_wordToken 17 = .ok (.iload_n 3, 1) := by decide +kernel
theorem dX3_wordToken_18 : decode cX3_wordToken 18 = .ok (.invokevirtual 92, 3) := by decide +kernel
theorem dX3_wordToken_21 : decode cX3_wordToken 21 = .ok (.bipush 32, 2) := by decide +kernel
theorem dX3_wordToken_23 : decode cX3_wordToken 23 = .ok (.if_icmp .ne 19, 3) := by decide +kernel
theorem dX3_wordToken_26 : decode cX3_wordToken 26 = .ok (.aload_n 0, 1) := by decide +kernel
theorem dX3_wordToken_27 : decode cX3_wordToken 27 = .ok (.iload_n 3, 1) := by decide +kernel
theorem dX3_wordToken_28 : decode cX3_wordToken 28 = .ok (.iconst 1, 1) := by decide +kernel
theorem dX3_wordToken_29 : decode cX3_wordToken 29 = .ok (.iadd, 1) := by decide +kernel
theorem dX3_wordToken_30 : decode cX3_wordToken 30 = .ok (.iload_n 1, 1) := by decide +kernel
theorem dX3_wordToken_31 : decode cX3_wordToken 31 = .ok (.invokevirtual 96, 3) := by decide +kernel
theorem dX3_wordToken_34 : decode cX3_wordToken 34 = .ok (.ifCond .eq 5, 3) := by decide +kernel
theorem dX3_wordToken_37 : decode cX3_wordToken 37 = .ok (.iload_n 2, 1) := by decide +kernel
theorem dX3_wordToken_38 : decode cX3_wordToken 38 = .ok (.ireturn, 1) := by decide +kernel
theorem dX3_wordToken_39 : decode cX3_wordToken 39 = .ok (.iinc 2 1, 3) := by decide +kernel
theorem dX3_wordToken_42 : decode cX3_wordToken 42 = .ok (.iinc 3 1, 3) := by decide +kernel
theorem dX3_wordToken_45 : decode cX3_wordToken 45 = .ok (.goto (-39), 3) := by decide +kernel
theorem dX3_wordToken_48 : decode cX3_wordToken 48 = .ok (.iconst 1, 1) := by decide +kernel
theorem dX3_wordToken_49 : decode cX3_wordToken 49 = .ok (.ireturn, 1) := by decide +kernel
theorem dX3_standsAt_0 : decode cX3_standsAt 0 = .ok (.iload_n 2, 1) := by decide +kernel
theorem dX3_standsAt_1 : decode cX3_standsAt 1 = .ok (.aload_n 0, 1) := by decide +kernel
theorem dX3_standsAt_2 : decode cX3_standsAt 2 = .ok (.getfield 37, 3) := by decide +kernel
theorem dX3_standsAt_5 : decode cX3_standsAt 5 = .ok (.isub, 1) := by decide +kernel
theorem dX3_standsAt_6 : decode cX3_standsAt 6 = .ok (.istore_n 3, 1) := by decide +kernel
theorem dX3_standsAt_7 : decode cX3_standsAt 7 = .ok (.iload_n 1, 1) := by decide +kernel
theorem dX3_standsAt_8 : decode cX3_standsAt 8 = .ok (.iload_n 3, 1) := by decide +kernel
theorem dX3_standsAt_9 : decode cX3_standsAt 9 = .ok (.iadd, 1) := by decide +kernel
theorem dX3_standsAt_10 : decode cX3_standsAt 10 = .ok (.ldc 84, 2) := by decide +kernel
theorem dX3_standsAt_12 : decode cX3_standsAt 12 = .ok (.invokevirtual 86, 3) := by decide +kernel
theorem dX3_standsAt_15 : decode cX3_standsAt 15 = .ok (.if_icmp .ge 16, 3) := by decide +kernel
theorem dX3_standsAt_18 : decode cX3_standsAt 18 = .ok (.ldc 84, 2) := by decide +kernel
theorem dX3_standsAt_20 : decode cX3_standsAt 20 = .ok (.iload_n 1, 1) := by decide +kernel
theorem dX3_standsAt_21 : decode cX3_standsAt 21 = .ok (.iload_n 3, 1) := by decide +kernel
theorem dX3_standsAt_22 : decode cX3_standsAt 22 = .ok (.iadd, 1) := by decide +kernel
theorem dX3_standsAt_23 : decode cX3_standsAt 23 = .ok (.invokevirtual 92, 3) := by decide +kernel
theorem dX3_standsAt_26 : decode cX3_standsAt 26 = .ok (.bipush 32, 2) := by decide +kernel
theorem dX3_standsAt_28 : decode cX3_standsAt 28 = .ok (.if_icmp .eq 5, 3) := by decide +kernel
theorem dX3_standsAt_31 : decode cX3_standsAt 31 = .ok (.iconst 0, 1) := by decide +kernel
theorem dX3_standsAt_32 : decode cX3_standsAt 32 = .ok (.ireturn, 1) := by decide +kernel
theorem dX3_standsAt_33 : decode cX3_standsAt 33 = .ok (.iconst 0, 1) := by decide +kernel
theorem dX3_standsAt_34 : decode cX3_standsAt 34 = .ok (.istore 4, 2) := by decide +kernel
theorem dX3_standsAt_36 : decode cX3_standsAt 36 = .ok (.iload 4, 2) := by decide +kernel
theorem dX3_standsAt_38 : decode cX3_standsAt 38 = .ok (.iload_n 3, 1) := by decide +kernel
theorem dX3_standsAt_39 : decode cX3_standsAt 39 = .ok (.if_icmp .ge 35, 3) := by decide +kernel
theorem dX3_standsAt_42 : decode cX3_standsAt 42 = .ok (.ldc 84, 2) := by decide +kernel
theorem dX3_standsAt_44 : decode cX3_standsAt 44 = .ok (.iload_n 1, 1) := by decide +kernel
theorem dX3_standsAt_45 : decode cX3_standsAt 45 = .ok (.iload 4, 2) := by decide +kernel
theorem dX3_standsAt_47 : decode cX3_standsAt 47 = .ok (.iadd, 1) := by decide +kernel
theorem dX3_standsAt_48 : decode cX3_standsAt 48 = .ok (.invokevirtual 92, 3) := by decide +kernel
theorem dX3_standsAt_51 : decode cX3_standsAt 51 = .ok (.aload_n 0, 1) := by decide +kernel
theorem dX3_standsAt_52 : decode cX3_standsAt 52 = .ok (.getfield 9, 3) := by decide +kernel
theorem dX3_standsAt_55 : decode cX3_standsAt 55 = .ok (.aload_n 0, 1) := by decide +kernel
theorem dX3_standsAt_56 : decode cX3_standsAt 56 = .ok (.getfield 37, 3) := by decide +kernel
theorem dX3_standsAt_59 : decode cX3_standsAt 59 = .ok (.iload 4, 2) := by decide +kernel
theorem dX3_standsAt_61 : decode cX3_standsAt 61 = .ok (.iadd, 1) := by decide +kernel
theorem dX3_standsAt_62 : decode cX3_standsAt 62 = .ok (.iaload, 1) := by decide +kernel
theorem dX3_standsAt_63 : decode cX3_standsAt 63 = .ok (.if_icmp .eq 5, 3) := by decide +kernel
theorem dX3_standsAt_66 : decode cX3_standsAt 66 = .ok (.iconst 0, 1) := by decide +kernel
theorem dX3_standsAt_67 : decode cX3_standsAt 67 = .ok (.ireturn, 1) := by decide +kernel
theorem dX3_standsAt_68 : decode cX3_standsAt 68 = .ok (.iinc 4 1, 3) := by decide +kernel
theorem dX3_standsAt_71 : decode cX3_standsAt 71 = .ok (.goto (-35), 3) := by decide +kernel
theorem dX3_standsAt_74 : decode cX3_standsAt 74 = .ok (.iconst 1, 1) := by decide +kernel
theorem dX3_standsAt_75 : decode cX3_standsAt 75 = .ok (.ireturn, 1) := by decide +kernel
theorem dX4_init_0 : decode cX4_init 0 = .ok (.aload_n 0, 1) := by decide +kernel
theorem dX4_init_1 : decode cX4_init 1 = .ok (.invokespecial 3, 3) := by decide +kernel
theorem dX4_init_4 : decode cX4_init 4 = .ok (.aload_n 0, 1) := by decide +kernel
theorem dX4_init_5 : decode cX4_init 5 = .ok (.sipush 160, 3) := by decide +kernel
theorem dX4_init_8 : decode cX4_init 8 = .ok (.newarray .int, 2) := by decide +kernel
theorem dX4_init_10 : decode cX4_init 10 = .ok (.putfield 9, 3) := by decide +kernel
theorem dX4_init_13 : decode cX4_init 13 = .ok (.aload_n 0, 1) := by decide +kernel
theorem dX4_init_14 : decode cX4_init 14 = .ok (.iconst 3, 1) := by decide +kernel
theorem dX4_init_15 : decode cX4_init 15 = .ok (.newarray .int, 2) := by decide +kernel
theorem dX4_init_17 : decode cX4_init 17 = .ok (.putfield 15, 3) := by decide +kernel
theorem dX4_init_20 : decode cX4_init 20 = .ok (.aload_n 0, 1) := by decide +kernel
theorem dX4_init_21 : decode cX4_init 21 = .ok (.bipush 40, 2) := by decide +kernel
theorem dX4_init_23 : decode cX4_init 23 = .ok (.newarray .int, 2) := by decide +kernel
theorem dX4_init_25 : decode cX4_init 25 = .ok (.putfield 18, 3) := by decide +kernel
theorem dX4_init_28 : decode cX4_init 28 = .ok (.return_, 1) := by decide +kernel
theorem dX4_clear_0 : decode cX4_clear 0 = .ok (.aload_n 0, 1) := by decide +kernel
theorem dX4_clear_1 : decode cX4_clear 1 = .ok (.iconst 0, 1) := by decide +kernel
theorem dX4_clear_2 : decode cX4_clear 2 = .ok (.putfield 21, 3) := by decide +kernel
theorem dX4_clear_5 : decode cX4_clear 5 = .ok (.return_, 1) := by decide +kernel
theorem dX4_add_0 : decode cX4_add 0 = .ok (.aload_n 0, 1) := by decide +kernel
theorem dX4_add_1 : decode cX4_add 1 = .ok (.getfield 21, 3) := by decide +kernel
theorem dX4_add_4 : decode cX4_add 4 = .ok (.sipush 160, 3) := by decide +kernel
theorem dX4_add_7 : decode cX4_add 7 = .ok (.if_icmp .ge 20, 3) := by decide +kernel
theorem dX4_add_10 : decode cX4_add 10 = .ok (.aload_n 0, 1) := by decide +kernel
theorem dX4_add_11 : decode cX4_add 11 = .ok (.getfield 9, 3) := by decide +kernel
theorem dX4_add_14 : decode cX4_add 14 = .ok (.aload_n 0, 1) := by decide +kernel
theorem dX4_add_15 : decode cX4_add 15 = .ok (.dup, 1) := by decide +kernel
theorem dX4_add_16 : decode cX4_add 16 = .ok (.getfield 21, 3) := by decide +kernel
theorem dX4_add_19 : decode cX4_add 19 = .ok (.dup_x1, 1) := by decide +kernel
theorem dX4_add_20 : decode cX4_add 20 = .ok (.iconst 1, 1) := by decide +kernel
theorem dX4_add_21 : decode cX4_add 21 = .ok (.iadd, 1) := by decide +kernel
theorem dX4_add_22 : decode cX4_add 22 = .ok (.putfield 21, 3) := by decide +kernel
theorem dX4_add_25 : decode cX4_add 25 = .ok (.iload_n 1, 1) := by decide +kernel
theorem dX4_add_26 : decode cX4_add 26 = .ok (.iastore, 1) := by decide +kernel
theorem dX4_add_27 : decode cX4_add 27 = .ok (.return_, 1) := by decide +kernel
theorem dX4_endPart_0 : decode cX4_endPart 0 = .ok (.aload_n 0, 1) := by decide +kernel
theorem dX4_endPart_1 : decode cX4_endPart 1 = .ok (.getfield 15, 3) := by decide +kernel
theorem dX4_endPart_4 : decode cX4_endPart 4 = .ok (.iload_n 1, 1) := by decide +kernel
theorem dX4_endPart_5 : decode cX4_endPart 5 = .ok (.aload_n 0, 1) := by decide +kernel
theorem dX4_endPart_6 : decode cX4_endPart 6 = .ok (.getfield 21, 3) := by decide +kernel
theorem dX4_endPart_9 : decode cX4_endPart 9 = .ok (.iastore, 1) := by decide +kernel
theorem dX4_endPart_10 : decode cX4_endPart 10 = .ok (.return_, 1) := by decide +kernel
theorem dX4_says_0 : decode cX4_says 0 = .ok (.aload_n 0, 1) := by decide +kernel
theorem dX4_says_1 : decode cX4_says 1 = .ok (.iconst 0, 1) := by decide +kernel
theorem dX4_says_2 : decode cX4_says 2 = .ok (.putfield 25, 3) := by decide +kernel
theorem dX4_says_5 : decode cX4_says 5 = .ok (.iload_n 1, 1) := by decide +kernel
theorem dX4_says_6 : decode cX4_says 6 = .ok (.ifCond .le 14, 3) := by decide +kernel
theorem dX4_says_9 : decode cX4_says 9 = .ok (.aload_n 0, 1) := by decide +kernel
theorem dX4_says_10 : decode cX4_says 10 = .ok (.getfield 15, 3) := by decide +kernel
theorem dX4_says_13 : decode cX4_says 13 = .ok (.iload_n 1, 1) := by decide +kernel
theorem dX4_says_14 : decode cX4_says 14 = .ok (.iconst 1, 1) := by decide +kernel
theorem dX4_says_15 : decode cX4_says 15 = .ok (.isub, 1) := by decide +kernel
theorem dX4_says_16 : decode cX4_says 16 = .ok (.iaload, 1) := by decide +kernel
theorem dX4_says_17 : decode cX4_says 17 = .ok (.goto 4, 3) := by decide +kernel
theorem dX4_says_20 : decode cX4_says 20 = .ok (.iconst 0, 1) := by decide +kernel
theorem dX4_says_21 : decode cX4_says 21 = .ok (.istore 5, 2) := by decide +kernel
theorem dX4_says_23 : decode cX4_says 23 = .ok (.aload_n 0, 1) := by decide +kernel
theorem dX4_says_24 : decode cX4_says 24 = .ok (.getfield 15, 3) := by decide +kernel
theorem dX4_says_27 : decode cX4_says 27 = .ok (.iload_n 1, 1) := by decide +kernel
theorem dX4_says_28 : decode cX4_says 28 = .ok (.iaload, 1) := by decide +kernel
theorem dX4_says_29 : decode cX4_says 29 = .ok (.sipush 160, 3) := by decide +kernel
theorem dX4_says_32 : decode cX4_says 32 = .ok (.invokestatic 28, 3) := by decide +kernel
theorem dX4_says_35 : decode cX4_says 35 = .ok (.istore 6, 2) := by decide +kernel
theorem dX4_says_37 : decode cX4_says 37 = .ok (.iload 5, 2) := by decide +kernel
theorem dX4_says_39 : decode cX4_says 39 = .ok (.istore 7, 2) := by decide +kernel
theorem dX4_says_41 : decode cX4_says 41 = .ok (.iload 7, 2) := by decide +kernel
theorem dX4_says_43 : decode cX4_says 43 = .ok (.iload 6, 2) := by decide +kernel
theorem dX4_says_45 : decode cX4_says 45 = .ok (.if_icmp .ge 24, 3) := by decide +kernel
theorem dX4_says_48 : decode cX4_says 48 = .ok (.aload_n 0, 1) := by decide +kernel
theorem dX4_says_49 : decode cX4_says 49 = .ok (.aload_n 0, 1) := by decide +kernel
theorem dX4_says_50 : decode cX4_says 50 = .ok (.getfield 9, 3) := by decide +kernel
theorem dX4_says_53 : decode cX4_says 53 = .ok (.iload 7, 2) := by decide +kernel
theorem dX4_says_55 : decode cX4_says 55 = .ok (.iaload, 1) := by decide +kernel
theorem dX4_says_56 : decode cX4_says 56 = .ok (.aload_n 2, 1) := by decide +kernel
theorem dX4_says_57 : decode cX4_says 57 = .ok (.iload_n 3, 1) := by decide +kernel
theorem dX4_says_58 : decode cX4_says 58 = .ok (.iload 4, 2) := by decide +kernel
theorem dX4_says_60 : decode cX4_says 60 = .ok (.invokevirtual 34, 3) := by decide +kernel
theorem dX4_says_63 : decode cX4_says 63 = .ok (.iinc 7 1, 3) := by decide +kernel
theorem dX4_says_66 : decode cX4_says 66 = .ok (.goto (-25), 3) := by decide +kernel
theorem dX4_says_69 : decode cX4_says 69 = .ok (.aload_n 0, 1) := by decide +kernel
theorem dX4_says_70 : decode cX4_says 70 = .ok (.invokevirtual 38, 3) := by decide +kernel
theorem dX4_says_73 : decode cX4_says 73 = .ok (.bipush 99, 2) := by decide +kernel
theorem dX4_says_75 : decode cX4_says 75 = .ok (.invokestatic 42, 3) := by decide +kernel
theorem dX4_says_78 : decode cX4_says 78 = .ok (.ireturn, 1) := by decide +kernel
theorem dX4_take_0 : decode cX4_take 0 = .ok (.iload_n 1, 1) := by decide +kernel
theorem dX4_take_1 : decode cX4_take 1 = .ok (.ineg, 1) := by decide +kernel
theorem dX4_take_2 : decode cX4_take 2 = .ok (.lookupswitch 188 #[(3, 176), (305, 157), (306, 74), (307, 85), (308, 96), (309, 109), (310, 118), (311, 134)], 74) := by decide +kernel
theorem dX4_take_76 : decode cX4_take 76 = .ok (.aload_n 0, 1) := by decide +kernel
theorem dX4_take_77 : decode cX4_take 77 = .ok (.iload_n 3, 1) := by decide +kernel
theorem dX4_take_78 : decode cX4_take 78 = .ok (.bipush 6, 2) := by decide +kernel
theorem dX4_take_80 : decode cX4_take 80 = .ok (.idiv, 1) := by decide +kernel
theorem dX4_take_81 : decode cX4_take 81 = .ok (.invokevirtual 45, 3) := by decide +kernel
theorem dX4_take_84 : decode cX4_take 84 = .ok (.goto 139, 3) := by decide +kernel
theorem dX4_take_87 : decode cX4_take 87 = .ok (.aload_n 0, 1) := by decide +kernel
theorem dX4_take_88 : decode cX4_take 88 = .ok (.iload_n 3, 1) := by decide +kernel
theorem dX4_take_89 : decode cX4_take 89 = .ok (.bipush 6, 2) := by decide +kernel
theorem dX4_take_91 : decode cX4_take 91 = .ok (.irem, 1) := by decide +kernel
theorem dX4_take_92 : decode cX4_take 92 = .ok (.invokevirtual 45, 3) := by decide +kernel
theorem dX4_take_95 : decode cX4_take 95 = .ok (.goto 128, 3) := by decide +kernel
theorem dX4_take_98 : decode cX4_take 98 = .ok (.aload_n 0, 1) := by decide +kernel
theorem dX4_take_99 : decode cX4_take 99 = .ok (.aload_n 2, 1) := by decide +kernel
theorem dX4_take_100 : decode cX4_take 100 = .ok (.getfield 49, 3) := by decide +kernel
theorem dX4_take_103 : decode cX4_take 103 = .ok (.iload_n 3, 1) := by decide +kernel
theorem dX4_take_104 : decode cX4_take 104 = .ok (.iaload, 1) := by decide +kernel
theorem dX4_take_105 : decode cX4_take 105 = .ok (.invokevirtual 45, 3) := by decide +kernel
theorem dX4_take_108 : decode cX4_take 108 = .ok (.goto 115, 3) := by decide +kernel
theorem dX4_take_111 : decode cX4_take 111 = .ok (.aload_n 0, 1) := by decide +kernel
theorem dX4_take_112 : decode cX4_take 112 = .ok (.iload 4, 2) := by decide +kernel
theorem dX4_take_114 : decode cX4_take 114 = .ok (.invokevirtual 45, 3) := by decide +kernel
theorem dX4_take_117 : decode cX4_take 117 = .ok (.goto 106, 3) := by decide +kernel
theorem dX4_take_120 : decode cX4_take 120 = .ok (.aload_n 0, 1) := by decide +kernel
theorem dX4_take_121 : decode cX4_take 121 = .ok (.aload_n 2, 1) := by decide +kernel
theorem dX4_take_122 : decode cX4_take 122 = .ok (.getfield 54, 3) := by decide +kernel
theorem dX4_take_125 : decode cX4_take 125 = .ok (.iload_n 3, 1) := by decide +kernel
theorem dX4_take_126 : decode cX4_take 126 = .ok (.iaload, 1) := by decide +kernel
theorem dX4_take_127 : decode cX4_take 127 = .ok (.invokestatic 57, 3) := by decide +kernel
theorem dX4_take_130 : decode cX4_take 130 = .ok (.invokevirtual 45, 3) := by decide +kernel
theorem dX4_take_133 : decode cX4_take 133 = .ok (.goto 90, 3) := by decide +kernel
theorem dX4_take_136 : decode cX4_take 136 = .ok (.aload_n 0, 1) := by decide +kernel
theorem dX4_take_137 : decode cX4_take 137 = .ok (.aload_n 2, 1) := by decide +kernel
theorem dX4_take_138 : decode cX4_take 138 = .ok (.getfield 61, 3) := by decide +kernel
theorem dX4_take_141 : decode cX4_take 141 = .ok (.iload_n 3, 1) := by decide +kernel
theorem dX4_take_142 : decode cX4_take 142 = .ok (.invokestatic 65, 3) := by decide +kernel
theorem dX4_take_145 : decode cX4_take 145 = .ok (.ifCond .eq 7, 3) := by decide +kernel
theorem dX4_take_148 : decode cX4_take 148 = .ok (.iconst 1, 1) := by decide +kernel
theorem dX4_take_149 : decode cX4_take 149 = .ok (.goto 4, 3) := by decide +kernel
theorem dX4_take_152 : decode cX4_take 152 = .ok (.iconst 0, 1) := by decide +kernel
theorem dX4_take_153 : decode cX4_take 153 = .ok (.invokevirtual 45, 3) := by decide +kernel
theorem dX4_take_156 : decode cX4_take 156 = .ok (.goto 67, 3) := by decide +kernel
theorem dX4_take_159 : decode cX4_take 159 = .ok (.aload_n 0, 1) := by decide +kernel
theorem dX4_take_160 : decode cX4_take 160 = .ok (.aload_n 0, 1) := by decide +kernel
theorem dX4_take_161 : decode cX4_take 161 = .ok (.invokevirtual 38, 3) := by decide +kernel
theorem dX4_take_164 : decode cX4_take 164 = .ok (.ifCond .ne 7, 3) := by decide +kernel
theorem dX4_take_167 : decode cX4_take 167 = .ok (.iconst 1, 1) := by decide +kernel
theorem dX4_take_168 : decode cX4_take 168 = .ok (.goto 4, 3) := by decide +kernel
theorem dX4_take_171 : decode cX4_take 171 = .ok (.iconst 0, 1) := by decide +kernel
theorem dX4_take_172 : decode cX4_take 172 = .ok (.invokevirtual 45, 3) := by decide +kernel
theorem dX4_take_175 : decode cX4_take 175 = .ok (.goto 48, 3) := by decide +kernel
theorem dX4_take_178 : decode cX4_take 178 = .ok (.aload_n 0, 1) := by decide +kernel
theorem dX4_take_179 : decode cX4_take 179 = .ok (.aload_n 0, 1) := by decide +kernel
theorem dX4_take_180 : decode cX4_take 180 = .ok (.invokevirtual 38, 3) := by decide +kernel
theorem dX4_take_183 : decode cX4_take 183 = .ok (.ineg, 1) := by decide +kernel
theorem dX4_take_184 : decode cX4_take 184 = .ok (.invokevirtual 45, 3) := by decide +kernel
theorem dX4_take_187 : decode cX4_take 187 = .ok (.goto 36, 3) := by decide +kernel
theorem dX4_take_190 : decode cX4_take 190 = .ok (.iload_n 1, 1) := by decide +kernel
theorem dX4_take_191 : decode cX4_take 191 = .ok (.ifCond .lt 11, 3) := by decide +kernel
theorem dX4_take_194 : decode cX4_take 194 = .ok (.aload_n 0, 1) := by decide +kernel
theorem dX4_take_195 : decode cX4_take 195 = .ok (.iload_n 1, 1) := by decide +kernel
theorem dX4_take_196 : decode cX4_take 196 = .ok (.invokevirtual 45, 3) := by decide +kernel
theorem dX4_take_199 : decode cX4_take 199 = .ok (.goto 24, 3) := by decide +kernel
theorem dX4_take_202 : decode cX4_take 202 = .ok (.aload_n 0, 1) := by decide +kernel
theorem dX4_take_203 : decode cX4_take 203 = .ok (.invokevirtual 38, 3) := by decide +kernel
theorem dX4_take_206 : decode cX4_take 206 = .ok (.istore 5, 2) := by decide +kernel
theorem dX4_take_208 : decode cX4_take 208 = .ok (.aload_n 0, 1) := by decide +kernel
theorem dX4_take_209 : decode cX4_take 209 = .ok (.iload_n 1, 1) := by decide +kernel
theorem dX4_take_210 : decode cX4_take 210 = .ok (.ineg, 1) := by decide +kernel
theorem dX4_take_211 : decode cX4_take 211 = .ok (.aload_n 0, 1) := by decide +kernel
theorem dX4_take_212 : decode cX4_take 212 = .ok (.invokevirtual 38, 3) := by decide +kernel
theorem dX4_take_215 : decode cX4_take 215 = .ok (.iload 5, 2) := by decide +kernel
theorem dX4_take_217 : decode cX4_take 217 = .ok (.invokestatic 69, 3) := by decide +kernel
theorem dX4_take_220 : decode cX4_take 220 = .ok (.invokevirtual 45, 3) := by decide +kernel
theorem dX4_take_223 : decode cX4_take 223 = .ok (.return_, 1) := by decide +kernel
theorem dX4_joined_0 : decode cX4_joined 0 = .ok (.iload_n 0, 1) := by decide +kernel
theorem dX4_joined_1 : decode cX4_joined 1 = .ok (.lookupswitch 107 #[(42, 67), (43, 59), (45, 63), (60, 71), (61, 82), (304, 93)], 59) := by decide +kernel
theorem dX4_joined_60 : decode cX4_joined 60 = .ok (.iload_n 1, 1) := by decide +kernel
theorem dX4_joined_61 : decode cX4_joined 61 = .ok (.iload_n 2, 1) := by decide +kernel
theorem dX4_joined_62 : decode cX4_joined 62 = .ok (.iadd, 1) := by decide +kernel
theorem dX4_joined_63 : decode cX4_joined 63 = .ok (.ireturn, 1) := by decide +kernel
theorem dX4_joined_64 : decode cX4_joined 64 = .ok (.iload_n 1, 1) := by decide +kernel
theorem dX4_joined_65 : decode cX4_joined 65 = .ok (.iload_n 2, 1) := by decide +kernel
theorem dX4_joined_66 : decode cX4_joined 66 = .ok (.isub, 1) := by decide +kernel
theorem dX4_joined_67 : decode cX4_joined 67 = .ok (.ireturn, 1) := by decide +kernel
theorem dX4_joined_68 : decode cX4_joined 68 = .ok (.iload_n 1, 1) := by decide +kernel
theorem dX4_joined_69 : decode cX4_joined 69 = .ok (.iload_n 2, 1) := by decide +kernel
theorem dX4_joined_70 : decode cX4_joined 70 = .ok (.imul, 1) := by decide +kernel
theorem dX4_joined_71 : decode cX4_joined 71 = .ok (.ireturn, 1) := by decide +kernel
theorem dX4_joined_72 : decode cX4_joined 72 = .ok (.iload_n 1, 1) := by decide +kernel
theorem dX4_joined_73 : decode cX4_joined 73 = .ok (.iload_n 2, 1) := by decide +kernel
theorem dX4_joined_74 : decode cX4_joined 74 = .ok (.if_icmp .ge 7, 3) := by decide +kernel
theorem dX4_joined_77 : decode cX4_joined 77 = .ok (.iconst 1, 1) := by decide +kernel
theorem dX4_joined_78 : decode cX4_joined 78 = .ok (.goto 4, 3) := by decide +kernel
theorem dX4_joined_81 : decode cX4_joined 81 = .ok (.iconst 0, 1) := by decide +kernel
theorem dX4_joined_82 : decode cX4_joined 82 = .ok (.ireturn, 1) := by decide +kernel
theorem dX4_joined_83 : decode cX4_joined 83 = .ok (.iload_n 1, 1) := by decide +kernel
theorem dX4_joined_84 : decode cX4_joined 84 = .ok (.iload_n 2, 1) := by decide +kernel
theorem dX4_joined_85 : decode cX4_joined 85 = .ok (.if_icmp .ne 7, 3) := by decide +kernel
theorem dX4_joined_88 : decode cX4_joined 88 = .ok (.iconst 1, 1) := by decide +kernel
theorem dX4_joined_89 : decode cX4_joined 89 = .ok (.goto 4, 3) := by decide +kernel
theorem dX4_joined_92 : decode cX4_joined 92 = .ok (.iconst 0, 1) := by decide +kernel
theorem dX4_joined_93 : decode cX4_joined 93 = .ok (.ireturn, 1) := by decide +kernel
theorem dX4_joined_94 : decode cX4_joined 94 = .ok (.iload_n 1, 1) := by decide +kernel
theorem dX4_joined_95 : decode cX4_joined 95 = .ok (.ifCond .eq 11, 3) := by decide +kernel
theorem dX4_joined_98 : decode cX4_joined 98 = .ok (.iload_n 2, 1) := by decide +kernel
theorem dX4_joined_99 : decode cX4_joined 99 = .ok (.ifCond .eq 7, 3) := by decide +kernel
theorem dX4_joined_102 : decode cX4_joined 102 = .ok (.iconst 1, 1) := by decide +kernel
theorem dX4_joined_103 : decode cX4_joined 103 = .ok (.goto 4, 3) := by decide +kernel
theorem dX4_joined_106 : decode cX4_joined 106 = .ok (.iconst 0, 1) := by decide +kernel
theorem dX4_joined_107 : decode cX4_joined 107 = .ok (.ireturn, 1) := by decide +kernel
theorem dX4_joined_108 : decode cX4_joined 108 = .ok (.iload_n 1, 1) := by decide +kernel
theorem dX4_joined_109 : decode cX4_joined 109 = .ok (.ifCond .ne 7, 3) := by decide +kernel
theorem dX4_joined_112 : decode cX4_joined 112 = .ok (.iload_n 2, 1) := by decide +kernel
theorem dX4_joined_113 : decode cX4_joined 113 = .ok (.ifCond .eq 7, 3) := by decide +kernel
theorem dX4_joined_116 : decode cX4_joined 116 = .ok (.iconst 1, 1) := by decide +kernel
theorem dX4_joined_117 : decode cX4_joined 117 = .ok (.goto 4, 3) := by decide +kernel
theorem dX4_joined_120 : decode cX4_joined 120 = .ok (.iconst 0, 1) := by decide +kernel
theorem dX4_joined_121 : decode cX4_joined 121 = .ok (.ireturn, 1) := by decide +kernel
theorem dX4_push_0 : decode cX4_push 0 = .ok (.aload_n 0, 1) := by decide +kernel
theorem dX4_push_1 : decode cX4_push 1 = .ok (.getfield 25, 3) := by decide +kernel
theorem dX4_push_4 : decode cX4_push 4 = .ok (.bipush 40, 2) := by decide +kernel
theorem dX4_push_6 : decode cX4_push 6 = .ok (.if_icmp .ge 20, 3) := by decide +kernel
theorem dX4_push_9 : decode cX4_push 9 = .ok (.aload_n 0, 1) := by decide +kernel
theorem dX4_push_10 : decode cX4_push 10 = .ok (.getfield 18, 3) := by decide +kernel
theorem dX4_push_13 : decode cX4_push 13 = .ok (.aload_n 0, 1) := by decide +kernel
theorem dX4_push_14 : decode cX4_push 14 = .ok (.dup, 1) := by decide +kernel
theorem dX4_push_15 : decode cX4_push 15 = .ok (.getfield 25, 3) := by decide +kernel
theorem dX4_push_18 : decode cX4_push 18 = .ok (.dup_x1, 1) := by decide +kernel
theorem dX4_push_19 : decode cX4_push 19 = .ok (.iconst 1, 1) := by decide +kernel
theorem dX4_push_20 : decode cX4_push 20 = .ok (.iadd, 1) := by decide +kernel
theorem dX4_push_21 : decode cX4_push 21 = .ok (.putfield 25, 3) := by decide +kernel
theorem dX4_push_24 : decode cX4_push 24 = .ok (.iload_n 1, 1) := by decide +kernel
theorem dX4_push_25 : decode cX4_push 25 = .ok (.iastore, 1) := by decide +kernel
theorem dX4_push_26 : decode cX4_push 26 = .ok (.return_, 1) := by decide +kernel
theorem dX4_pop_0 : decode cX4_pop 0 = .ok (.aload_n 0, 1) := by decide +kernel
theorem dX4_pop_1 : decode cX4_pop 1 = .ok (.getfield 25, 3) := by decide +kernel
theorem dX4_pop_4 : decode cX4_pop 4 = .ok (.ifCond .le 22, 3) := by decide +kernel
theorem dX4_pop_7 : decode cX4_pop 7 = .ok (.aload_n 0, 1) := by decide +kernel
theorem dX4_pop_8 : decode cX4_pop 8 = .ok (.getfield 18, 3) := by decide +kernel
theorem dX4_pop_11 : decode cX4_pop 11 = .ok (.aload_n 0, 1) := by decide +kernel
theorem dX4_pop_12 : decode cX4_pop 12 = .ok (.dup, 1) := by decide +kernel
theorem dX4_pop_13 : decode cX4_pop 13 = .ok (.getfield 25, 3) := by decide +kernel
theorem dX4_pop_16 : decode cX4_pop 16 = .ok (.iconst 1, 1) := by decide +kernel
theorem dX4_pop_17 : decode cX4_pop 17 = .ok (.isub, 1) := by decide +kernel
theorem dX4_pop_18 : decode cX4_pop 18 = .ok (.dup_x1, 1) := by decide +kernel
theorem dX4_pop_19 : decode cX4_pop 19 = .ok (.putfield 25, 3) := by decide +kernel
theorem dX4_pop_22 : decode cX4_pop 22 = .ok (.iaload, 1) := by decide +kernel
theorem dX4_pop_23 : decode cX4_pop 23 = .ok (.goto 4, 3) := by decide +kernel
theorem dX4_pop_26 : decode cX4_pop 26 = .ok (.iconst 0, 1) := by decide +kernel
theorem dX4_pop_27 : decode cX4_pop 27 = .ok (.ireturn, 1) := by decide +kernel
theorem dX5_init_0 : decode cX5_init 0 = .ok (.aload_n 0, 1) := by decide +kernel
theorem dX5_init_1 : decode cX5_init 1 = .ok (.invokespecial 1, 3) := by decide +kernel
theorem dX5_init_4 : decode cX5_init 4 = .ok (.aload_n 0, 1) := by decide +kernel
theorem dX5_init_5 : decode cX5_init 5 = .ok (.new 7, 3) := by decide +kernel
theorem dX5_init_8 : decode cX5_init 8 = .ok (.dup, 1) := by decide +kernel
theorem dX5_init_9 : decode cX5_init 9 = .ok (.invokespecial 9, 3) := by decide +kernel
theorem dX5_init_12 : decode cX5_init 12 = .ok (.putfield 10, 3) := by decide +kernel
theorem dX5_init_15 : decode cX5_init 15 = .ok (.aload_n 0, 1) := by decide +kernel
theorem dX5_init_16 : decode cX5_init 16 = .ok (.new 7, 3) := by decide +kernel
theorem dX5_init_19 : decode cX5_init 19 = .ok (.dup, 1) := by decide +kernel
theorem dX5_init_20 : decode cX5_init 20 = .ok (.invokespecial 9, 3) := by decide +kernel
theorem dX5_init_23 : decode cX5_init 23 = .ok (.putfield 16, 3) := by decide +kernel
theorem dX5_init_26 : decode cX5_init 26 = .ok (.aload_n 0, 1) := by decide +kernel
theorem dX5_init_27 : decode cX5_init 27 = .ok (.new 19, 3) := by decide +kernel
theorem dX5_init_30 : decode cX5_init 30 = .ok (.dup, 1) := by decide +kernel
theorem dX5_init_31 : decode cX5_init 31 = .ok (.invokespecial 21, 3) := by decide +kernel
theorem dX5_init_34 : decode cX5_init 34 = .ok (.putfield 22, 3) := by decide +kernel
theorem dX5_init_37 : decode cX5_init 37 = .ok (.aload_n 0, 1) := by decide +kernel
theorem dX5_init_38 : decode cX5_init 38 = .ok (.bipush 6, 2) := by decide +kernel
theorem dX5_init_40 : decode cX5_init 40 = .ok (.anewarray 26, 3) := by decide +kernel
theorem dX5_init_43 : decode cX5_init 43 = .ok (.putfield 28, 3) := by decide +kernel
theorem dX5_init_46 : decode cX5_init 46 = .ok (.aload_n 0, 1) := by decide +kernel
theorem dX5_init_47 : decode cX5_init 47 = .ok (.new 32, 3) := by decide +kernel
theorem dX5_init_50 : decode cX5_init 50 = .ok (.dup, 1) := by decide +kernel
theorem dX5_init_51 : decode cX5_init 51 = .ok (.invokespecial 34, 3) := by decide +kernel
theorem dX5_init_54 : decode cX5_init 54 = .ok (.putfield 35, 3) := by decide +kernel
theorem dX5_init_57 : decode cX5_init 57 = .ok (.aload_n 0, 1) := by decide +kernel
theorem dX5_init_58 : decode cX5_init 58 = .ok (.iconst 4, 1) := by decide +kernel
theorem dX5_init_59 : decode cX5_init 59 = .ok (.anewarray 39, 3) := by decide +kernel
theorem dX5_init_62 : decode cX5_init 62 = .ok (.putfield 41, 3) := by decide +kernel
theorem dX5_init_65 : decode cX5_init 65 = .ok (.aload_n 0, 1) := by decide +kernel
theorem dX5_init_66 : decode cX5_init 66 = .ok (.bipush 48, 2) := by decide +kernel
theorem dX5_init_68 : decode cX5_init 68 = .ok (.newarray .long, 2) := by decide +kernel
theorem dX5_init_70 : decode cX5_init 70 = .ok (.putfield 45, 3) := by decide +kernel
theorem dX5_init_73 : decode cX5_init 73 = .ok (.iconst 0, 1) := by decide +kernel
theorem dX5_init_74 : decode cX5_init 74 = .ok (.istore_n 1, 1) := by decide +kernel
theorem dX5_init_75 : decode cX5_init 75 = .ok (.iload_n 1, 1) := by decide +kernel
theorem dX5_init_76 : decode cX5_init 76 = .ok (.bipush 6, 2) := by decide +kernel
theorem dX5_init_78 : decode cX5_init 78 = .ok (.if_icmp .ge 22, 3) := by decide +kernel
theorem dX5_init_81 : decode cX5_init 81 = .ok (.aload_n 0, 1) := by decide +kernel
theorem dX5_init_82 : decode cX5_init 82 = .ok (.getfield 28, 3) := by decide +kernel
theorem dX5_init_85 : decode cX5_init 85 = .ok (.iload_n 1, 1) := by decide +kernel
theorem dX5_init_86 : decode cX5_init 86 = .ok (.new 26, 3) := by decide +kernel
theorem dX5_init_89 : decode cX5_init 89 = .ok (.dup, 1) := by decide +kernel
theorem dX5_init_90 : decode cX5_init 90 = .ok (.invokespecial 49, 3) := by decide +kernel
theorem dX5_init_93 : decode cX5_init 93 = .ok (.aastore, 1) := by decide +kernel
theorem dX5_init_94 : decode cX5_init 94 = .ok (.iinc 1 1, 3) := by decide +kernel
theorem dX5_init_97 : decode cX5_init 97 = .ok (.goto (-22), 3) := by decide +kernel
theorem dX5_init_100 : decode cX5_init 100 = .ok (.iconst 0, 1) := by decide +kernel
theorem dX5_init_101 : decode cX5_init 101 = .ok (.istore_n 1, 1) := by decide +kernel
theorem dX5_init_102 : decode cX5_init 102 = .ok (.iload_n 1, 1) := by decide +kernel
theorem dX5_init_103 : decode cX5_init 103 = .ok (.iconst 4, 1) := by decide +kernel
theorem dX5_init_104 : decode cX5_init 104 = .ok (.if_icmp .ge 22, 3) := by decide +kernel
theorem dX5_init_107 : decode cX5_init 107 = .ok (.aload_n 0, 1) := by decide +kernel
theorem dX5_init_108 : decode cX5_init 108 = .ok (.getfield 41, 3) := by decide +kernel
theorem dX5_init_111 : decode cX5_init 111 = .ok (.iload_n 1, 1) := by decide +kernel
theorem dX5_init_112 : decode cX5_init 112 = .ok (.new 39, 3) := by decide +kernel
theorem dX5_init_115 : decode cX5_init 115 = .ok (.dup, 1) := by decide +kernel
theorem dX5_init_116 : decode cX5_init 116 = .ok (.invokespecial 50, 3) := by decide +kernel
theorem dX5_init_119 : decode cX5_init 119 = .ok (.aastore, 1) := by decide +kernel
theorem dX5_init_120 : decode cX5_init 120 = .ok (.iinc 1 1, 3) := by decide +kernel
theorem dX5_init_123 : decode cX5_init 123 = .ok (.goto (-21), 3) := by decide +kernel
theorem dX5_init_126 : decode cX5_init 126 = .ok (.iconst 0, 1) := by decide +kernel
theorem dX5_init_127 : decode cX5_init 127 = .ok (.istore_n 1, 1) := by decide +kernel
theorem dX5_init_128 : decode cX5_init 128 = .ok (.iload_n 1, 1) := by decide +kernel
theorem dX5_init_129 : decode cX5_init 129 = .ok (.ldc 51, 2) := by decide +kernel
theorem dX5_init_131 : decode cX5_init 131 = .ok (.invokevirtual 53, 3) := by decide +kernel
theorem dX5_init_134 : decode cX5_init 134 = .ok (.if_icmp .ge 22, 3) := by decide +kernel
theorem dX5_init_137 : decode cX5_init 137 = .ok (.aload_n 0, 1) := by decide +kernel
theorem dX5_init_138 : decode cX5_init 138 = .ok (.getfield 22, 3) := by decide +kernel
theorem dX5_init_141 : decode cX5_init 141 = .ok (.ldc 51, 2) := by decide +kernel
theorem dX5_init_143 : decode cX5_init 143 = .ok (.iload_n 1, 1) := by decide +kernel
theorem dX5_init_144 : decode cX5_init 144 = .ok (.invokevirtual 59, 3) := by decide +kernel
theorem dX5_init_147 : decode cX5_init 147 = .ok (.invokevirtual 63, 3) := by decide +kernel
theorem dX5_init_150 : decode cX5_init 150 = .ok (.iinc 1 1, 3) := by decide +kernel
theorem dX5_init_153 : decode cX5_init 153 = .ok (.goto (-25), 3) := by decide +kernel
theorem dX5_init_156 : decode cX5_init 156 = .ok (.aload_n 0, 1) := by decide +kernel
theorem dX5_init_157 : decode cX5_init 157 = .ok (.invokevirtual 67, 3) := by decide +kernel
theorem dX5_init_160 : decode cX5_init 160 = .ok (.pop, 1) := by decide +kernel
theorem dX5_init_161 : decode cX5_init 161 = .ok (.return_, 1) := by decide +kernel
theorem dX5_count_0 : decode cX5_count 0 = .ok (.iload_n 1, 1) := by decide +kernel
theorem dX5_count_1 : decode cX5_count 1 = .ok (.tableswitch 78 0 4 #[35, 46, 57, 62, 70], 35) := by decide +kernel
theorem dX5_count_36 : decode cX5_count 36 = .ok (.aload_n 0, 1) := by decide +kernel
theorem dX5_count_37 : decode cX5_count 37 = .ok (.getfield 10, 3) := by decide +kernel
theorem dX5_count_40 : decode cX5_count 40 = .ok (.getfield 70, 3) := by decide +kernel
theorem dX5_count_43 : decode cX5_count 43 = .ok (.invokestatic 74, 3) := by decide +kernel
theorem dX5_count_46 : decode cX5_count 46 = .ok (.ireturn, 1) := by decide +kernel
theorem dX5_count_47 : decode cX5_count 47 = .ok (.aload_n 0, 1) := by decide +kernel
theorem dX5_count_48 : decode cX5_count 48 = .ok (.getfield 10, 3) := by decide +kernel
theorem dX5_count_51 : decode cX5_count 51 = .ok (.getfield 80, 3) := by decide +kernel
theorem dX5_count_54 : decode cX5_count 54 = .ok (.invokestatic 74, 3) := by decide +kernel
theorem dX5_count_57 : decode cX5_count 57 = .ok (.ireturn, 1) := by decide +kernel
theorem dX5_count_58 : decode cX5_count 58 = .ok (.aload_n 0, 1) := by decide +kernel
theorem dX5_count_59 : decode cX5_count 59 = .ok (.getfield 83, 3) := by decide +kernel
theorem dX5_count_62 : decode cX5_count 62 = .ok (.ireturn, 1) := by decide +kernel
theorem dX5_count_63 : decode cX5_count 63 = .ok (.aload_n 0, 1) := by decide +kernel
theorem dX5_count_64 : decode cX5_count 64 = .ok (.getfield 10, 3) := by decide +kernel
theorem dX5_count_67 : decode cX5_count 67 = .ok (.getfield 87, 3) := by decide +kernel
theorem dX5_count_70 : decode cX5_count 70 = .ok (.ireturn, 1) := by decide +kernel
theorem dX5_count_71 : decode cX5_count 71 = .ok (.aload_n 0, 1) := by decide +kernel
theorem dX5_count_72 : decode cX5_count 72 = .ok (.getfield 22, 3) := by decide +kernel
theorem dX5_count_75 : decode cX5_count 75 = .ok (.getfield 90, 3) := by decide +kernel
theorem dX5_count_78 : decode cX5_count 78 = .ok (.ireturn, 1) := by decide +kernel
theorem dX5_count_79 : decode cX5_count 79 = .ok (.bipush (-2), 2) := by decide +kernel
theorem dX5_count_81 : decode cX5_count 81 = .ok (.ireturn, 1) := by decide +kernel
theorem dX5_feed_0 : decode cX5_feed 0 = .ok (.iload_n 2, 1) := by decide +kernel
theorem dX5_feed_1 : decode cX5_feed 1 = .ok (.invokestatic 93, 3) := by decide +kernel
theorem dX5_feed_4 : decode cX5_feed 4 = .ok (.ifCond .eq 38, 3) := by decide +kernel
theorem dX5_feed_7 : decode cX5_feed 7 = .ok (.iload_n 3, 1) := by decide +kernel
theorem dX5_feed_8 : decode cX5_feed 8 = .ok (.invokestatic 93, 3) := by decide +kernel
theorem dX5_feed_11 : decode cX5_feed 11 = .ok (.ifCond .eq 31, 3) := by decide +kernel
theorem dX5_feed_14 : decode cX5_feed 14 = .ok (.iload 4, 2) := by decide +kernel
theorem dX5_feed_16 : decode cX5_feed 16 = .ok (.invokestatic 93, 3) := by decide +kernel
theorem dX5_feed_19 : decode cX5_feed 19 = .ok (.ifCond .eq 23, 3) := by decide +kernel
theorem dX5_feed_22 : decode cX5_feed 22 = .ok (.iload 5, 2) := by decide +kernel
theorem dX5_feed_24 : decode cX5_feed 24 = .ok (.invokestatic 93, 3) := by decide +kernel
theorem dX5_feed_27 : decode cX5_feed 27 = .ok (.ifCond .eq 15, 3) := by decide +kernel
theorem dX5_feed_30 : decode cX5_feed 30 = .ok (.iload 6, 2) := by decide +kernel
theorem dX5_feed_32 : decode cX5_feed 32 = .ok (.invokestatic 93, 3) := by decide +kernel
theorem dX5_feed_35 : decode cX5_feed 35 = .ok (.ifCond .eq 7, 3) := by decide +kernel
theorem dX5_feed_38 : decode cX5_feed 38 = .ok (.iconst 1, 1) := by decide +kernel
theorem dX5_feed_39 : decode cX5_feed 39 = .ok (.goto 4, 3) := by decide +kernel
theorem dX5_feed_42 : decode cX5_feed 42 = .ok (.iconst 0, 1) := by decide +kernel
theorem dX5_feed_43 : decode cX5_feed 43 = .ok (.istore 7, 2) := by decide +kernel
theorem dX5_feed_45 : decode cX5_feed 45 = .ok (.iload_n 1, 1) := by decide +kernel
theorem dX5_feed_46 : decode cX5_feed 46 = .ok (.iconst 1, 1) := by decide +kernel
theorem dX5_feed_47 : decode cX5_feed 47 = .ok (.iconst 5, 1) := by decide +kernel
theorem dX5_feed_48 : decode cX5_feed 48 = .ok (.invokestatic 97, 3) := by decide +kernel
theorem dX5_feed_51 : decode cX5_feed 51 = .ok (.ifCond .eq 8, 3) := by decide +kernel
theorem dX5_feed_54 : decode cX5_feed 54 = .ok (.iload 7, 2) := by decide +kernel
theorem dX5_feed_56 : decode cX5_feed 56 = .ok (.ifCond .ne 6, 3) := by decide +kernel
theorem dX5_feed_59 : decode cX5_feed 59 = .ok (.bipush (-2), 2) := by decide +kernel
theorem dX5_feed_61 : decode cX5_feed 61 = .ok (.ireturn, 1) := by decide +kernel
theorem dX5_feed_62 : decode cX5_feed 62 = .ok (.aload_n 0, 1) := by decide +kernel
theorem dX5_feed_63 : decode cX5_feed 63 = .ok (.getfield 22, 3) := by decide +kernel
theorem dX5_feed_66 : decode cX5_feed 66 = .ok (.getfield 90, 3) := by decide +kernel
theorem dX5_feed_69 : decode cX5_feed 69 = .ok (.iload_n 1, 1) := by decide +kernel
theorem dX5_feed_70 : decode cX5_feed 70 = .ok (.iadd, 1) := by decide +kernel
theorem dX5_feed_71 : decode cX5_feed 71 = .ok (.sipush 160, 3) := by decide +kernel
theorem dX5_feed_74 : decode cX5_feed 74 = .ok (.if_icmp .le 6, 3) := by decide +kernel
theorem dX5_feed_77 : decode cX5_feed 77 = .ok (.bipush (-4), 2) := by decide +kernel
theorem dX5_feed_79 : decode cX5_feed 79 = .ok (.ireturn, 1) := by decide +kernel
theorem dX5_feed_80 : decode cX5_feed 80 = .ok (.aload_n 0, 1) := by decide +kernel
theorem dX5_feed_81 : decode cX5_feed 81 = .ok (.getfield 22, 3) := by decide +kernel
theorem dX5_feed_84 : decode cX5_feed 84 = .ok (.iload_n 2, 1) := by decide +kernel
theorem dX5_feed_85 : decode cX5_feed 85 = .ok (.invokevirtual 63, 3) := by decide +kernel
theorem dX5_feed_88 : decode cX5_feed 88 = .ok (.iload_n 1, 1) := by decide +kernel
theorem dX5_feed_89 : decode cX5_feed 89 = .ok (.iconst 1, 1) := by decide +kernel
theorem dX5_feed_90 : decode cX5_feed 90 = .ok (.if_icmp .le 11, 3) := by decide +kernel
theorem dX5_feed_93 : decode cX5_feed 93 = .ok (.aload_n 0, 1) := by decide +kernel
theorem dX5_feed_94 : decode cX5_feed 94 = .ok (.getfield 22, 3) := by decide +kernel
theorem dX5_feed_97 : decode cX5_feed 97 = .ok (.iload_n 3, 1) := by decide +kernel
theorem dX5_feed_98 : decode cX5_feed 98 = .ok (.invokevirtual 63, 3) := by decide +kernel
theorem dX5_feed_101 : decode cX5_feed 101 = .ok (.iload_n 1, 1) := by decide +kernel
theorem dX5_feed_102 : decode cX5_feed 102 = .ok (.iconst 2, 1) := by decide +kernel
theorem dX5_feed_103 : decode cX5_feed 103 = .ok (.if_icmp .le 12, 3) := by decide +kernel
theorem dX5_feed_106 : decode cX5_feed 106 = .ok (.aload_n 0, 1) := by decide +kernel
theorem dX5_feed_107 : decode cX5_feed 107 = .ok (.getfield 22, 3) := by decide +kernel
theorem dX5_feed_110 : decode cX5_feed 110 = .ok (.iload 4, 2) := by decide +kernel
theorem dX5_feed_112 : decode cX5_feed 112 = .ok (.invokevirtual 63, 3) := by decide +kernel
theorem dX5_feed_115 : decode cX5_feed 115 = .ok (.iload_n 1, 1) := by decide +kernel
theorem dX5_feed_116 : decode cX5_feed 116 = .ok (.iconst 3, 1) := by decide +kernel
theorem dX5_feed_117 : decode cX5_feed 117 = .ok (.if_icmp .le 12, 3) := by decide +kernel
theorem dX5_feed_120 : decode cX5_feed 120 = .ok (.aload_n 0, 1) := by decide +kernel
theorem dX5_feed_121 : decode cX5_feed 121 = .ok (.getfield 22, 3) := by decide +kernel
theorem dX5_feed_124 : decode cX5_feed 124 = .ok (.iload 5, 2) := by decide +kernel
theorem dX5_feed_126 : decode cX5_feed 126 = .ok (.invokevirtual 63, 3) := by decide +kernel
theorem dX5_feed_129 : decode cX5_feed 129 = .ok (.iload_n 1, 1) := by decide +kernel
theorem dX5_feed_130 : decode cX5_feed 130 = .ok (.iconst 4, 1) := by decide +kernel
theorem dX5_feed_131 : decode cX5_feed 131 = .ok (.if_icmp .le 12, 3) := by decide +kernel
theorem dX5_feed_134 : decode cX5_feed 134 = .ok (.aload_n 0, 1) := by decide +kernel
theorem dX5_feed_135 : decode cX5_feed 135 = .ok (.getfield 22, 3) := by decide +kernel
theorem dX5_feed_138 : decode cX5_feed 138 = .ok (.iload 6, 2) := by decide +kernel
theorem dX5_feed_140 : decode cX5_feed 140 = .ok (.invokevirtual 63, 3) := by decide +kernel
theorem dX5_feed_143 : decode cX5_feed 143 = .ok (.aload_n 0, 1) := by decide +kernel
theorem dX5_feed_144 : decode cX5_feed 144 = .ok (.getfield 22, 3) := by decide +kernel
theorem dX5_feed_147 : decode cX5_feed 147 = .ok (.getfield 90, 3) := by decide +kernel
theorem dX5_feed_150 : decode cX5_feed 150 = .ok (.ireturn, 1) := by decide +kernel
theorem dX5_text_0 : decode cX5_text 0 = .ok (.aload_n 0, 1) := by decide +kernel
theorem dX5_text_1 : decode cX5_text 1 = .ok (.invokevirtual 67, 3) := by decide +kernel
theorem dX5_text_4 : decode cX5_text 4 = .ok (.ireturn, 1) := by decide +kernel
theorem dX5_force_0 : decode cX5_force 0 = .ok (.iload_n 1, 1) := by decide +kernel
theorem dX5_force_1 : decode cX5_force 1 = .ok (.iconst 0, 1) := by decide +kernel
theorem dX5_force_2 : decode cX5_force 2 = .ok (.aload_n 0, 1) := by decide +kernel
theorem dX5_force_3 : decode cX5_force 3 = .ok (.getfield 83, 3) := by decide +kernel
theorem dX5_force_6 : decode cX5_force 6 = .ok (.iconst 1, 1) := by decide +kernel
theorem dX5_force_7 : decode cX5_force 7 = .ok (.isub, 1) := by decide +kernel
theorem dX5_force_8 : decode cX5_force 8 = .ok (.invokestatic 97, 3) := by decide +kernel
theorem dX5_force_11 : decode cX5_force 11 = .ok (.ifCond .ne 6, 3) := by decide +kernel
theorem dX5_force_14 : decode cX5_force 14 = .ok (.bipush (-2), 2) := by decide +kernel
theorem dX5_force_16 : decode cX5_force 16 = .ok (.ireturn, 1) := by decide +kernel
theorem dX5_force_17 : decode cX5_force 17 = .ok (.aload_n 0, 1) := by decide +kernel
theorem dX5_force_18 : decode cX5_force 18 = .ok (.getfield 10, 3) := by decide +kernel
theorem dX5_force_21 : decode cX5_force 21 = .ok (.getfield 87, 3) := by decide +kernel
theorem dX5_force_24 : decode cX5_force 24 = .ok (.istore_n 2, 1) := by decide +kernel
theorem dX5_force_25 : decode cX5_force 25 = .ok (.aload_n 0, 1) := by decide +kernel
theorem dX5_force_26 : decode cX5_force 26 = .ok (.getfield 10, 3) := by decide +kernel
theorem dX5_force_29 : decode cX5_force 29 = .ok (.iload_n 1, 1) := by decide +kernel
theorem dX5_force_30 : decode cX5_force 30 = .ok (.putfield 87, 3) := by decide +kernel
theorem dX5_force_33 : decode cX5_force 33 = .ok (.iload_n 2, 1) := by decide +kernel
theorem dX5_force_34 : decode cX5_force 34 = .ok (.ireturn, 1) := by decide +kernel
theorem dX5_asks_0 : decode cX5_asks 0 = .ok (.iload_n 2, 1) := by decide +kernel
theorem dX5_asks_1 : decode cX5_asks 1 = .ok (.invokestatic 101, 3) := by decide +kernel
theorem dX5_asks_4 : decode cX5_asks 4 = .ok (.ifCond .ne 6, 3) := by decide +kernel
theorem dX5_asks_7 : decode cX5_asks 7 = .ok (.bipush (-5), 2) := by decide +kernel
theorem dX5_asks_9 : decode cX5_asks 9 = .ok (.ireturn, 1) := by decide +kernel
theorem dX5_asks_10 : decode cX5_asks 10 = .ok (.iload_n 1, 1) := by decide +kernel
theorem dX5_asks_11 : decode cX5_asks 11 = .ok (.iconst 0, 1) := by decide +kernel
theorem dX5_asks_12 : decode cX5_asks 12 = .ok (.iconst 2, 1) := by decide +kernel
theorem dX5_asks_13 : decode cX5_asks 13 = .ok (.invokestatic 97, 3) := by decide +kernel
theorem dX5_asks_16 : decode cX5_asks 16 = .ok (.ifCond .eq 10, 3) := by decide +kernel
theorem dX5_asks_19 : decode cX5_asks 19 = .ok (.iload_n 3, 1) := by decide +kernel
theorem dX5_asks_20 : decode cX5_asks 20 = .ok (.invokestatic 104, 3) := by decide +kernel
theorem dX5_asks_23 : decode cX5_asks 23 = .ok (.ifCond .ne 6, 3) := by decide +kernel
theorem dX5_asks_26 : decode cX5_asks 26 = .ok (.bipush (-7), 2) := by decide +kernel
theorem dX5_asks_28 : decode cX5_asks 28 = .ok (.ireturn, 1) := by decide +kernel
theorem dX5_asks_29 : decode cX5_asks 29 = .ok (.aload_n 0, 1) := by decide +kernel
theorem dX5_asks_30 : decode cX5_asks 30 = .ok (.invokevirtual 107, 3) := by decide +kernel
theorem dX5_asks_33 : decode cX5_asks 33 = .ok (.iload_n 1, 1) := by decide +kernel
theorem dX5_asks_34 : decode cX5_asks 34 = .ok (.aload_n 0, 1) := by decide +kernel
theorem dX5_asks_35 : decode cX5_asks 35 = .ok (.getfield 10, 3) := by decide +kernel
theorem dX5_asks_38 : decode cX5_asks 38 = .ok (.iload_n 2, 1) := by decide +kernel
theorem dX5_asks_39 : decode cX5_asks 39 = .ok (.iload_n 3, 1) := by decide +kernel
theorem dX5_asks_40 : decode cX5_asks 40 = .ok (.invokevirtual 110, 3) := by decide +kernel
theorem dX5_asks_43 : decode cX5_asks 43 = .ok (.ireturn, 1) := by decide +kernel
theorem dX5_knit_0 : decode cX5_knit 0 = .ok (.iload_n 1, 1) := by decide +kernel
theorem dX5_knit_1 : decode cX5_knit 1 = .ok (.invokestatic 101, 3) := by decide +kernel
theorem dX5_knit_4 : decode cX5_knit 4 = .ok (.ifCond .ne 6, 3) := by decide +kernel
theorem dX5_knit_7 : decode cX5_knit 7 = .ok (.bipush (-5), 2) := by decide +kernel
theorem dX5_knit_9 : decode cX5_knit 9 = .ok (.ireturn, 1) := by decide +kernel
theorem dX5_knit_10 : decode cX5_knit 10 = .ok (.iload_n 2, 1) := by decide +kernel
theorem dX5_knit_11 : decode cX5_knit 11 = .ok (.iload_n 3, 1) := by decide +kernel
theorem dX5_knit_12 : decode cX5_knit 12 = .ok (.invokestatic 114, 3) := by decide +kernel
theorem dX5_knit_15 : decode cX5_knit 15 = .ok (.ifCond .ne 6, 3) := by decide +kernel
theorem dX5_knit_18 : decode cX5_knit 18 = .ok (.bipush (-7), 2) := by decide +kernel
theorem dX5_knit_20 : decode cX5_knit 20 = .ok (.ireturn, 1) := by decide +kernel
theorem dX5_knit_21 : decode cX5_knit 21 = .ok (.aload_n 0, 1) := by decide +kernel
theorem dX5_knit_22 : decode cX5_knit 22 = .ok (.getfield 10, 3) := by decide +kernel
theorem dX5_knit_25 : decode cX5_knit 25 = .ok (.getfield 118, 3) := by decide +kernel
theorem dX5_knit_28 : decode cX5_knit 28 = .ok (.iload_n 1, 1) := by decide +kernel
theorem dX5_knit_29 : decode cX5_knit 29 = .ok (.iaload, 1) := by decide +kernel
theorem dX5_knit_30 : decode cX5_knit 30 = .ok (.istore 4, 2) := by decide +kernel
theorem dX5_knit_32 : decode cX5_knit 32 = .ok (.aload_n 0, 1) := by decide +kernel
theorem dX5_knit_33 : decode cX5_knit 33 = .ok (.getfield 10, 3) := by decide +kernel
theorem dX5_knit_36 : decode cX5_knit 36 = .ok (.iload_n 1, 1) := by decide +kernel
theorem dX5_knit_37 : decode cX5_knit 37 = .ok (.iload_n 2, 1) := by decide +kernel
theorem dX5_knit_38 : decode cX5_knit 38 = .ok (.iload_n 3, 1) := by decide +kernel
theorem dX5_knit_39 : decode cX5_knit 39 = .ok (.invokevirtual 122, 3) := by decide +kernel
theorem dX5_knit_42 : decode cX5_knit 42 = .ok (.iload 4, 2) := by decide +kernel
theorem dX5_knit_44 : decode cX5_knit 44 = .ok (.ireturn, 1) := by decide +kernel
theorem dX5_row_0 : decode cX5_row 0 = .ok (.iload_n 1, 1) := by decide +kernel
theorem dX5_row_1 : decode cX5_row 1 = .ok (.invokestatic 126, 3) := by decide +kernel
theorem dX5_row_4 : decode cX5_row 4 = .ok (.ifCond .ne 6, 3) := by decide +kernel
theorem dX5_row_7 : decode cX5_row 7 = .ok (.bipush (-5), 2) := by decide +kernel
theorem dX5_row_9 : decode cX5_row 9 = .ok (.ireturn, 1) := by decide +kernel
theorem dX5_row_10 : decode cX5_row 10 = .ok (.iload_n 2, 1) := by decide +kernel
theorem dX5_row_11 : decode cX5_row 11 = .ok (.iload_n 3, 1) := by decide +kernel
theorem dX5_row_12 : decode cX5_row 12 = .ok (.invokestatic 114, 3) := by decide +kernel
theorem dX5_row_15 : decode cX5_row 15 = .ok (.ifCond .ne 6, 3) := by decide +kernel
theorem dX5_row_18 : decode cX5_row 18 = .ok (.bipush (-7), 2) := by decide +kernel
theorem dX5_row_20 : decode cX5_row 20 = .ok (.ireturn, 1) := by decide +kernel
theorem dX5_row_21 : decode cX5_row 21 = .ok (.iconst 0, 1) := by decide +kernel
theorem dX5_row_22 : decode cX5_row 22 = .ok (.istore 4, 2) := by decide +kernel
theorem dX5_row_24 : decode cX5_row 24 = .ok (.iconst 0, 1) := by decide +kernel
theorem dX5_row_25 : decode cX5_row 25 = .ok (.istore 5, 2) := by decide +kernel
theorem dX5_row_27 : decode cX5_row 27 = .ok (.iload 5, 2) := by decide +kernel
theorem dX5_row_29 : decode cX5_row 29 = .ok (.bipush 6, 2) := by decide +kernel
theorem dX5_row_31 : decode cX5_row 31 = .ok (.if_icmp .ge 46, 3) := by decide +kernel
theorem dX5_row_34 : decode cX5_row 34 = .ok (.iload_n 1, 1) := by decide +kernel
theorem dX5_row_35 : decode cX5_row 35 = .ok (.bipush 6, 2) := by decide +kernel
theorem dX5_row_37 : decode cX5_row 37 = .ok (.imul, 1) := by decide +kernel
theorem dX5_row_38 : decode cX5_row 38 = .ok (.iload 5, 2) := by decide +kernel
theorem dX5_row_40 : decode cX5_row 40 = .ok (.iadd, 1) := by decide +kernel
theorem dX5_row_41 : decode cX5_row 41 = .ok (.istore 6, 2) := by decide +kernel
theorem dX5_row_43 : decode cX5_row 43 = .ok (.aload_n 0, 1) := by decide +kernel
theorem dX5_row_44 : decode cX5_row 44 = .ok (.getfield 10, 3) := by decide +kernel
theorem dX5_row_47 : decode cX5_row 47 = .ok (.getfield 118, 3) := by decide +kernel
theorem dX5_row_50 : decode cX5_row 50 = .ok (.iload 6, 2) := by decide +kernel
theorem dX5_row_52 : decode cX5_row 52 = .ok (.iaload, 1) := by decide +kernel
theorem dX5_row_53 : decode cX5_row 53 = .ok (.iload_n 2, 1) := by decide +kernel
theorem dX5_row_54 : decode cX5_row 54 = .ok (.if_icmp .eq 6, 3) := by decide +kernel
theorem dX5_row_57 : decode cX5_row 57 = .ok (.iinc 4 1, 3) := by decide +kernel
theorem dX5_row_60 : decode cX5_row 60 = .ok (.aload_n 0, 1) := by decide +kernel
theorem dX5_row_61 : decode cX5_row 61 = .ok (.getfield 10, 3) := by decide +kernel
theorem dX5_row_64 : decode cX5_row 64 = .ok (.iload 6, 2) := by decide +kernel
theorem dX5_row_66 : decode cX5_row 66 = .ok (.iload_n 2, 1) := by decide +kernel
theorem dX5_row_67 : decode cX5_row 67 = .ok (.iload_n 3, 1) := by decide +kernel
theorem dX5_row_68 : decode cX5_row 68 = .ok (.invokevirtual 122, 3) := by decide +kernel
theorem dX5_row_71 : decode cX5_row 71 = .ok (.iinc 5 1, 3) := by decide +kernel
theorem dX5_row_74 : decode cX5_row 74 = .ok (.goto (-47), 3) := by decide +kernel
theorem dX5_row_77 : decode cX5_row 77 = .ok (.iload 4, 2) := by decide +kernel
theorem dX5_row_79 : decode cX5_row 79 = .ok (.ireturn, 1) := by decide +kernel
theorem dX5_told_0 : decode cX5_told 0 = .ok (.iload_n 1, 1) := by decide +kernel
theorem dX5_told_1 : decode cX5_told 1 = .ok (.invokestatic 101, 3) := by decide +kernel
theorem dX5_told_4 : decode cX5_told 4 = .ok (.ifCond .ne 6, 3) := by decide +kernel
theorem dX5_told_7 : decode cX5_told 7 = .ok (.bipush (-5), 2) := by decide +kernel
theorem dX5_told_9 : decode cX5_told 9 = .ok (.ireturn, 1) := by decide +kernel
theorem dX5_told_10 : decode cX5_told 10 = .ok (.iload_n 2, 1) := by decide +kernel
theorem dX5_told_11 : decode cX5_told 11 = .ok (.tableswitch 119 0 5 #[37, 47, 57, 66, 79, 99], 37) := by decide +kernel
theorem dX5_told_48 : decode cX5_told 48 = .ok (.aload_n 0, 1) := by decide +kernel
theorem dX5_told_49 : decode cX5_told 49 = .ok (.getfield 10, 3) := by decide +kernel
theorem dX5_told_52 : decode cX5_told 52 = .ok (.getfield 118, 3) := by decide +kernel
theorem dX5_told_55 : decode cX5_told 55 = .ok (.iload_n 1, 1) := by decide +kernel
theorem dX5_told_56 : decode cX5_told 56 = .ok (.iaload, 1) := by decide +kernel
theorem dX5_told_57 : decode cX5_told 57 = .ok (.ireturn, 1) := by decide +kernel
theorem dX5_told_58 : decode cX5_told 58 = .ok (.aload_n 0, 1) := by decide +kernel
theorem dX5_told_59 : decode cX5_told 59 = .ok (.getfield 10, 3) := by decide +kernel
theorem dX5_told_62 : decode cX5_told 62 = .ok (.getfield 129, 3) := by decide +kernel
theorem dX5_told_65 : decode cX5_told 65 = .ok (.iload_n 1, 1) := by decide +kernel
theorem dX5_told_66 : decode cX5_told 66 = .ok (.iaload, 1) := by decide +kernel
theorem dX5_told_67 : decode cX5_told 67 = .ok (.ireturn, 1) := by decide +kernel
theorem dX5_told_68 : decode cX5_told 68 = .ok (.aload_n 0, 1) := by decide +kernel
theorem dX5_told_69 : decode cX5_told 69 = .ok (.getfield 10, 3) := by decide +kernel
theorem dX5_told_72 : decode cX5_told 72 = .ok (.iload_n 1, 1) := by decide +kernel
theorem dX5_told_73 : decode cX5_told 73 = .ok (.invokevirtual 132, 3) := by decide +kernel
theorem dX5_told_76 : decode cX5_told 76 = .ok (.ireturn, 1) := by decide +kernel
theorem dX5_told_77 : decode cX5_told 77 = .ok (.aload_n 0, 1) := by decide +kernel
theorem dX5_told_78 : decode cX5_told 78 = .ok (.getfield 10, 3) := by decide +kernel
theorem dX5_told_81 : decode cX5_told 81 = .ok (.getfield 118, 3) := by decide +kernel
theorem dX5_told_84 : decode cX5_told 84 = .ok (.iload_n 1, 1) := by decide +kernel
theorem dX5_told_85 : decode cX5_told 85 = .ok (.iaload, 1) := by decide +kernel
theorem dX5_told_86 : decode cX5_told 86 = .ok (.invokestatic 136, 3) := by decide +kernel
theorem dX5_told_89 : decode cX5_told 89 = .ok (.ireturn, 1) := by decide +kernel
theorem dX5_told_90 : decode cX5_told 90 = .ok (.aload_n 0, 1) := by decide +kernel
theorem dX5_told_91 : decode cX5_told 91 = .ok (.getfield 10, 3) := by decide +kernel
theorem dX5_told_94 : decode cX5_told 94 = .ok (.getfield 70, 3) := by decide +kernel
theorem dX5_told_97 : decode cX5_told 97 = .ok (.iload_n 1, 1) := by decide +kernel
theorem dX5_told_98 : decode cX5_told 98 = .ok (.invokestatic 139, 3) := by decide +kernel
theorem dX5_told_101 : decode cX5_told 101 = .ok (.ifCond .eq 7, 3) := by decide +kernel
theorem dX5_told_104 : decode cX5_told 104 = .ok (.iconst 1, 1) := by decide +kernel
theorem dX5_told_105 : decode cX5_told 105 = .ok (.goto 4, 3) := by decide +kernel
theorem dX5_told_108 : decode cX5_told 108 = .ok (.iconst 0, 1) := by decide +kernel
theorem dX5_told_109 : decode cX5_told 109 = .ok (.ireturn, 1) := by decide +kernel
theorem dX5_told_110 : decode cX5_told 110 = .ok (.aload_n 0, 1) := by decide +kernel
theorem dX5_told_111 : decode cX5_told 111 = .ok (.getfield 10, 3) := by decide +kernel
theorem dX5_told_114 : decode cX5_told 114 = .ok (.getfield 80, 3) := by decide +kernel
theorem dX5_told_117 : decode cX5_told 117 = .ok (.iload_n 1, 1) := by decide +kernel
theorem dX5_told_118 : decode cX5_told 118 = .ok (.invokestatic 139, 3) := by decide +kernel
theorem dX5_told_121 : decode cX5_told 121 = .ok (.ifCond .eq 7, 3) := by decide +kernel
theorem dX5_told_124 : decode cX5_told 124 = .ok (.iconst 1, 1) := by decide +kernel
theorem dX5_told_125 : decode cX5_told 125 = .ok (.goto 4, 3) := by decide +kernel
theorem dX5_told_128 : decode cX5_told 128 = .ok (.iconst 0, 1) := by decide +kernel
theorem dX5_told_129 : decode cX5_told 129 = .ok (.ireturn, 1) := by decide +kernel
theorem dX5_told_130 : decode cX5_told 130 = .ok (.bipush (-7), 2) := by decide +kernel
theorem dX5_told_132 : decode cX5_told 132 = .ok (.ireturn, 1) := by decide +kernel
theorem dX5_pin_0 : decode cX5_pin 0 = .ok (.iload_n 1, 1) := by decide +kernel
theorem dX5_pin_1 : decode cX5_pin 1 = .ok (.invokestatic 101, 3) := by decide +kernel
theorem dX5_pin_4 : decode cX5_pin 4 = .ok (.ifCond .ne 6, 3) := by decide +kernel
theorem dX5_pin_7 : decode cX5_pin 7 = .ok (.bipush (-5), 2) := by decide +kernel
theorem dX5_pin_9 : decode cX5_pin 9 = .ok (.ireturn, 1) := by decide +kernel
theorem dX5_pin_10 : decode cX5_pin 10 = .ok (.iload_n 2, 1) := by decide +kernel
theorem dX5_pin_11 : decode cX5_pin 11 = .ok (.iconst 0, 1) := by decide +kernel
theorem dX5_pin_12 : decode cX5_pin 12 = .ok (.iconst 1, 1) := by decide +kernel
theorem dX5_pin_13 : decode cX5_pin 13 = .ok (.invokestatic 97, 3) := by decide +kernel
theorem dX5_pin_16 : decode cX5_pin 16 = .ok (.ifCond .ne 6, 3) := by decide +kernel
theorem dX5_pin_19 : decode cX5_pin 19 = .ok (.bipush (-7), 2) := by decide +kernel
theorem dX5_pin_21 : decode cX5_pin 21 = .ok (.ireturn, 1) := by decide +kernel
theorem dX5_pin_22 : decode cX5_pin 22 = .ok (.aload_n 0, 1) := by decide +kernel
theorem dX5_pin_23 : decode cX5_pin 23 = .ok (.getfield 10, 3) := by decide +kernel
theorem dX5_pin_26 : decode cX5_pin 26 = .ok (.getfield 70, 3) := by decide +kernel
theorem dX5_pin_29 : decode cX5_pin 29 = .ok (.iload_n 1, 1) := by decide +kernel
theorem dX5_pin_30 : decode cX5_pin 30 = .ok (.invokestatic 139, 3) := by decide +kernel
theorem dX5_pin_33 : decode cX5_pin 33 = .ok (.ifCond .eq 7, 3) := by decide +kernel
theorem dX5_pin_36 : decode cX5_pin 36 = .ok (.iconst 1, 1) := by decide +kernel
theorem dX5_pin_37 : decode cX5_pin 37 = .ok (.goto 4, 3) := by decide +kernel
theorem dX5_pin_40 : decode cX5_pin 40 = .ok (.iconst 0, 1) := by decide +kernel
theorem dX5_pin_41 : decode cX5_pin 41 = .ok (.istore_n 3, 1) := by decide +kernel
theorem dX5_pin_42 : decode cX5_pin 42 = .ok (.aload_n 0, 1) := by decide +kernel
theorem dX5_pin_43 : decode cX5_pin 43 = .ok (.getfield 10, 3) := by decide +kernel
theorem dX5_pin_46 : decode cX5_pin 46 = .ok (.iload_n 2, 1) := by decide +kernel
theorem dX5_pin_47 : decode cX5_pin 47 = .ok (.iconst 1, 1) := by decide +kernel
theorem dX5_pin_48 : decode cX5_pin 48 = .ok (.if_icmp .ne 18, 3) := by decide +kernel
theorem dX5_pin_51 : decode cX5_pin 51 = .ok (.aload_n 0, 1) := by decide +kernel
theorem dX5_pin_52 : decode cX5_pin 52 = .ok (.getfield 10, 3) := by decide +kernel
theorem dX5_pin_55 : decode cX5_pin 55 = .ok (.getfield 70, 3) := by decide +kernel
theorem dX5_pin_58 : decode cX5_pin 58 = .ok (.iload_n 1, 1) := by decide +kernel
theorem dX5_pin_59 : decode cX5_pin 59 = .ok (.invokestatic 143, 3) := by decide +kernel
theorem dX5_pin_62 : decode cX5_pin 62 = .ok (.lor, 1) := by decide +kernel
theorem dX5_pin_63 : decode cX5_pin 63 = .ok (.goto 19, 3) := by decide +kernel
theorem dX5_pin_66 : decode cX5_pin 66 = .ok (.aload_n 0, 1) := by decide +kernel
theorem dX5_pin_67 : decode cX5_pin 67 = .ok (.getfield 10, 3) := by decide +kernel
theorem dX5_pin_70 : decode cX5_pin 70 = .ok (.getfield 70, 3) := by decide +kernel
theorem dX5_pin_73 : decode cX5_pin 73 = .ok (.iload_n 1, 1) := by decide +kernel
theorem dX5_pin_74 : decode cX5_pin 74 = .ok (.invokestatic 143, 3) := by decide +kernel
theorem dX5_pin_77 : decode cX5_pin 77 = .ok (.ldc2_w 147, 3) := by decide +kernel
theorem dX5_pin_80 : decode cX5_pin 80 = .ok (.lxor, 1) := by decide +kernel
theorem dX5_pin_81 : decode cX5_pin 81 = .ok (.land, 1) := by decide +kernel
theorem dX5_pin_82 : decode cX5_pin 82 = .ok (.putfield 70, 3) := by decide +kernel
theorem dX5_pin_85 : decode cX5_pin 85 = .ok (.iload_n 3, 1) := by decide +kernel
theorem dX5_pin_86 : decode cX5_pin 86 = .ok (.ireturn, 1) := by decide +kernel
theorem dX5_hangs_0 : decode cX5_hangs 0 = .ok (.iload_n 1, 1) := by decide +kernel
theorem dX5_hangs_1 : decode cX5_hangs 1 = .ok (.invokestatic 101, 3) := by decide +kernel
theorem dX5_hangs_4 : decode cX5_hangs 4 = .ok (.ifCond .ne 7, 3) := by decide +kernel
theorem dX5_hangs_7 : decode cX5_hangs 7 = .ok (.ldc2_w 149, 3) := by decide +kernel
theorem dX5_hangs_10 : decode cX5_hangs 10 = .ok (.lreturn, 1) := by decide +kernel
theorem dX5_hangs_11 : decode cX5_hangs 11 = .ok (.iload_n 2, 1) := by decide +kernel
theorem dX5_hangs_12 : decode cX5_hangs 12 = .ok (.tableswitch 49 0 2 #[28, 37, 43], 28) := by decide +kernel
theorem dX5_hangs_40 : decode cX5_hangs 40 = .ok (.aload_n 0, 1) := by decide +kernel
theorem dX5_hangs_41 : decode cX5_hangs 41 = .ok (.getfield 10, 3) := by decide +kernel
theorem dX5_hangs_44 : decode cX5_hangs 44 = .ok (.iload_n 1, 1) := by decide +kernel
theorem dX5_hangs_45 : decode cX5_hangs 45 = .ok (.invokevirtual 151, 3) := by decide +kernel
theorem dX5_hangs_48 : decode cX5_hangs 48 = .ok (.lreturn, 1) := by decide +kernel
theorem dX5_hangs_49 : decode cX5_hangs 49 = .ok (.aload_n 0, 1) := by decide +kernel
theorem dX5_hangs_50 : decode cX5_hangs 50 = .ok (.iload_n 1, 1) := by decide +kernel
theorem dX5_hangs_51 : decode cX5_hangs 51 = .ok (.invokevirtual 154, 3) := by decide +kernel
theorem dX5_hangs_54 : decode cX5_hangs 54 = .ok (.lreturn, 1) := by decide +kernel
theorem dX5_hangs_55 : decode cX5_hangs 55 = .ok (.aload_n 0, 1) := by decide +kernel
theorem dX5_hangs_56 : decode cX5_hangs 56 = .ok (.iload_n 1, 1) := by decide +kernel
theorem dX5_hangs_57 : decode cX5_hangs 57 = .ok (.invokevirtual 157, 3) := by decide +kernel
theorem dX5_hangs_60 : decode cX5_hangs 60 = .ok (.lreturn, 1) := by decide +kernel
theorem dX5_hangs_61 : decode cX5_hangs 61 = .ok (.ldc2_w 149, 3) := by decide +kernel
theorem dX5_hangs_64 : decode cX5_hangs 64 = .ok (.lreturn, 1) := by decide +kernel
theorem dX5_loose_0 : decode cX5_loose 0 = .ok (.lconst 0, 1) := by decide +kernel
theorem dX5_loose_1 : decode cX5_loose 1 = .ok (.lstore_n 1, 1) := by decide +kernel
theorem dX5_loose_2 : decode cX5_loose 2 = .ok (.iconst 0, 1) := by decide +kernel
theorem dX5_loose_3 : decode cX5_loose 3 = .ok (.istore_n 3, 1) := by decide +kernel
theorem dX5_loose_4 : decode cX5_loose 4 = .ok (.iload_n 3, 1) := by decide +kernel
theorem dX5_loose_5 : decode cX5_loose 5 = .ok (.bipush 42, 2) := by decide +kernel
theorem dX5_loose_7 : decode cX5_loose 7 = .ok (.if_icmp .ge 40, 3) := by decide +kernel
theorem dX5_loose_10 : decode cX5_loose 10 = .ok (.aload_n 0, 1) := by decide +kernel
theorem dX5_loose_11 : decode cX5_loose 11 = .ok (.getfield 10, 3) := by decide +kernel
theorem dX5_loose_14 : decode cX5_loose 14 = .ok (.iload_n 3, 1) := by decide +kernel
theorem dX5_loose_15 : decode cX5_loose 15 = .ok (.invokevirtual 151, 3) := by decide +kernel
theorem dX5_loose_18 : decode cX5_loose 18 = .ok (.lconst 0, 1) := by decide +kernel
theorem dX5_loose_19 : decode cX5_loose 19 = .ok (.lcmp, 1) := by decide +kernel
theorem dX5_loose_20 : decode cX5_loose 20 = .ok (.ifCond .ne 21, 3) := by decide +kernel
theorem dX5_loose_23 : decode cX5_loose 23 = .ok (.aload_n 0, 1) := by decide +kernel
theorem dX5_loose_24 : decode cX5_loose 24 = .ok (.getfield 10, 3) := by decide +kernel
theorem dX5_loose_27 : decode cX5_loose 27 = .ok (.iload_n 3, 1) := by decide +kernel
theorem dX5_loose_28 : decode cX5_loose 28 = .ok (.invokevirtual 160, 3) := by decide +kernel
theorem dX5_loose_31 : decode cX5_loose 31 = .ok (.ifCond .ne 10, 3) := by decide +kernel
theorem dX5_loose_34 : decode cX5_loose 34 = .ok (.lload_n 1, 1) := by decide +kernel
theorem dX5_loose_35 : decode cX5_loose 35 = .ok (.iload_n 3, 1) := by decide +kernel
theorem dX5_loose_36 : decode cX5_loose 36 = .ok (.invokestatic 143, 3) := by decide +kernel
theorem dX5_loose_39 : decode cX5_loose 39 = .ok (.lor, 1) := by decide +kernel
theorem dX5_loose_40 : decode cX5_loose 40 = .ok (.lstore_n 1, 1) := by decide +kernel
theorem dX5_loose_41 : decode cX5_loose 41 = .ok (.iinc 3 1, 3) := by decide +kernel
theorem dX5_loose_44 : decode cX5_loose 44 = .ok (.goto (-40), 3) := by decide +kernel
theorem dX5_loose_47 : decode cX5_loose 47 = .ok (.lload_n 1, 1) := by decide +kernel
theorem dX5_loose_48 : decode cX5_loose 48 = .ok (.lreturn, 1) := by decide +kernel
theorem dX5_back_0 : decode cX5_back 0 = .ok (.iload_n 1, 1) := by decide +kernel
theorem dX5_back_1 : decode cX5_back 1 = .ok (.invokestatic 101, 3) := by decide +kernel
theorem dX5_back_4 : decode cX5_back 4 = .ok (.ifCond .eq 16, 3) := by decide +kernel
theorem dX5_back_7 : decode cX5_back 7 = .ok (.iconst 1, 1) := by decide +kernel
theorem dX5_back_8 : decode cX5_back 8 = .ok (.aload_n 0, 1) := by decide +kernel
theorem dX5_back_9 : decode cX5_back 9 = .ok (.iload_n 1, 1) := by decide +kernel
theorem dX5_back_10 : decode cX5_back 10 = .ok (.invokevirtual 154, 3) := by decide +kernel
theorem dX5_back_13 : decode cX5_back 13 = .ok (.invokestatic 74, 3) := by decide +kernel
theorem dX5_back_16 : decode cX5_back 16 = .ok (.iadd, 1) := by decide +kernel
theorem dX5_back_17 : decode cX5_back 17 = .ok (.goto 5, 3) := by decide +kernel
theorem dX5_back_20 : decode cX5_back 20 = .ok (.bipush (-5), 2) := by decide +kernel
theorem dX5_back_22 : decode cX5_back 22 = .ok (.ireturn, 1) := by decide +kernel
theorem dX5_run_0 : decode cX5_run 0 = .ok (.iload_n 1, 1) := by decide +kernel
theorem dX5_run_1 : decode cX5_run 1 = .ok (.invokestatic 101, 3) := by decide +kernel
theorem dX5_run_4 : decode cX5_run 4 = .ok (.ifCond .ne 6, 3) := by decide +kernel
theorem dX5_run_7 : decode cX5_run 7 = .ok (.bipush (-5), 2) := by decide +kernel
theorem dX5_run_9 : decode cX5_run 9 = .ok (.ireturn, 1) := by decide +kernel
theorem dX5_run_10 : decode cX5_run 10 = .ok (.iload_n 2, 1) := by decide +kernel
theorem dX5_run_11 : decode cX5_run 11 = .ok (.invokestatic 104, 3) := by decide +kernel
theorem dX5_run_14 : decode cX5_run 14 = .ok (.ifCond .eq 12, 3) := by decide +kernel
theorem dX5_run_17 : decode cX5_run 17 = .ok (.iload_n 3, 1) := by decide +kernel
theorem dX5_run_18 : decode cX5_run 18 = .ok (.iconst 0, 1) := by decide +kernel
theorem dX5_run_19 : decode cX5_run 19 = .ok (.iconst 3, 1) := by decide +kernel
theorem dX5_run_20 : decode cX5_run 20 = .ok (.invokestatic 97, 3) := by decide +kernel
theorem dX5_run_23 : decode cX5_run 23 = .ok (.ifCond .ne 6, 3) := by decide +kernel
theorem dX5_run_26 : decode cX5_run 26 = .ok (.bipush (-7), 2) := by decide +kernel
theorem dX5_run_28 : decode cX5_run 28 = .ok (.ireturn, 1) := by decide +kernel
theorem dX5_run_29 : decode cX5_run 29 = .ok (.aload_n 0, 1) := by decide +kernel
theorem dX5_run_30 : decode cX5_run 30 = .ok (.iload_n 1, 1) := by decide +kernel
theorem dX5_run_31 : decode cX5_run 31 = .ok (.iload_n 2, 1) := by decide +kernel
theorem dX5_run_32 : decode cX5_run 32 = .ok (.invokevirtual 163, 3) := by decide +kernel
theorem dX5_run_35 : decode cX5_run 35 = .ok (.pop, 1) := by decide +kernel
theorem dX5_run_36 : decode cX5_run 36 = .ok (.iload_n 3, 1) := by decide +kernel
theorem dX5_run_37 : decode cX5_run 37 = .ok (.tableswitch 49 0 2 #[27, 38, 43], 27) := by decide +kernel
theorem dX5_run_64 : decode cX5_run 64 = .ok (.aload_n 0, 1) := by decide +kernel
theorem dX5_run_65 : decode cX5_run 65 = .ok (.getfield 35, 3) := by decide +kernel
theorem dX5_run_68 : decode cX5_run 68 = .ok (.getfield 167, 3) := by decide +kernel
theorem dX5_run_71 : decode cX5_run 71 = .ok (.invokestatic 74, 3) := by decide +kernel
theorem dX5_run_74 : decode cX5_run 74 = .ok (.ireturn, 1) := by decide +kernel
theorem dX5_run_75 : decode cX5_run 75 = .ok (.aload_n 0, 1) := by decide +kernel
theorem dX5_run_76 : decode cX5_run 76 = .ok (.invokevirtual 170, 3) := by decide +kernel
theorem dX5_run_79 : decode cX5_run 79 = .ok (.ireturn, 1) := by decide +kernel
theorem dX5_run_80 : decode cX5_run 80 = .ok (.aload_n 0, 1) := by decide +kernel
theorem dX5_run_81 : decode cX5_run 81 = .ok (.iconst 1, 1) := by decide +kernel
theorem dX5_run_82 : decode cX5_run 82 = .ok (.invokevirtual 173, 3) := by decide +kernel
theorem dX5_run_85 : decode cX5_run 85 = .ok (.ireturn, 1) := by decide +kernel
theorem dX5_run_86 : decode cX5_run 86 = .ok (.aload_n 0, 1) := by decide +kernel
theorem dX5_run_87 : decode cX5_run 87 = .ok (.iconst 2, 1) := by decide +kernel
theorem dX5_run_88 : decode cX5_run 88 = .ok (.invokevirtual 173, 3) := by decide +kernel
theorem dX5_run_91 : decode cX5_run 91 = .ok (.ireturn, 1) := by decide +kernel
theorem dX5_goes_0 : decode cX5_goes 0 = .ok (.iload_n 1, 1) := by decide +kernel
theorem dX5_goes_1 : decode cX5_goes 1 = .ok (.invokestatic 101, 3) := by decide +kernel
theorem dX5_goes_4 : decode cX5_goes 4 = .ok (.ifCond .eq 19, 3) := by decide +kernel
theorem dX5_goes_7 : decode cX5_goes 7 = .ok (.iload_n 2, 1) := by decide +kernel
theorem dX5_goes_8 : decode cX5_goes 8 = .ok (.invokestatic 104, 3) := by decide +kernel
theorem dX5_goes_11 : decode cX5_goes 11 = .ok (.ifCond .eq 12, 3) := by decide +kernel
theorem dX5_goes_14 : decode cX5_goes 14 = .ok (.iload_n 3, 1) := by decide +kernel
theorem dX5_goes_15 : decode cX5_goes 15 = .ok (.iconst 0, 1) := by decide +kernel
theorem dX5_goes_16 : decode cX5_goes 16 = .ok (.iconst 1, 1) := by decide +kernel
theorem dX5_goes_17 : decode cX5_goes 17 = .ok (.invokestatic 97, 3) := by decide +kernel
theorem dX5_goes_20 : decode cX5_goes 20 = .ok (.ifCond .ne 7, 3) := by decide +kernel
theorem dX5_goes_23 : decode cX5_goes 23 = .ok (.ldc2_w 149, 3) := by decide +kernel
theorem dX5_goes_26 : decode cX5_goes 26 = .ok (.lreturn, 1) := by decide +kernel
theorem dX5_goes_27 : decode cX5_goes 27 = .ok (.aload_n 0, 1) := by decide +kernel
theorem dX5_goes_28 : decode cX5_goes 28 = .ok (.iload_n 1, 1) := by decide +kernel
theorem dX5_goes_29 : decode cX5_goes 29 = .ok (.iload_n 2, 1) := by decide +kernel
theorem dX5_goes_30 : decode cX5_goes 30 = .ok (.invokevirtual 163, 3) := by decide +kernel
theorem dX5_goes_33 : decode cX5_goes 33 = .ok (.pop, 1) := by decide +kernel
theorem dX5_goes_34 : decode cX5_goes 34 = .ok (.iload_n 3, 1) := by decide +kernel
theorem dX5_goes_35 : decode cX5_goes 35 = .ok (.ifCond .ne 13, 3) := by decide +kernel
theorem dX5_goes_38 : decode cX5_goes 38 = .ok (.aload_n 0, 1) := by decide +kernel
theorem dX5_goes_39 : decode cX5_goes 39 = .ok (.getfield 35, 3) := by decide +kernel
theorem dX5_goes_42 : decode cX5_goes 42 = .ok (.getfield 167, 3) := by decide +kernel
theorem dX5_goes_45 : decode cX5_goes 45 = .ok (.goto 10, 3) := by decide +kernel
theorem dX5_goes_48 : decode cX5_goes 48 = .ok (.aload_n 0, 1) := by decide +kernel
theorem dX5_goes_49 : decode cX5_goes 49 = .ok (.getfield 35, 3) := by decide +kernel
theorem dX5_goes_52 : decode cX5_goes 52 = .ok (.getfield 176, 3) := by decide +kernel
theorem dX5_goes_55 : decode cX5_goes 55 = .ok (.lreturn, 1) := by decide +kernel
theorem dX5_left_0 : decode cX5_left 0 = .ok (.iload_n 1, 1) := by decide +kernel
theorem dX5_left_1 : decode cX5_left 1 = .ok (.invokestatic 101, 3) := by decide +kernel
theorem dX5_left_4 : decode cX5_left 4 = .ok (.ifCond .eq 10, 3) := by decide +kernel
theorem dX5_left_7 : decode cX5_left 7 = .ok (.iload_n 3, 1) := by decide +kernel
theorem dX5_left_8 : decode cX5_left 8 = .ok (.invokestatic 101, 3) := by decide +kernel
theorem dX5_left_11 : decode cX5_left 11 = .ok (.ifCond .ne 6, 3) := by decide +kernel
theorem dX5_left_14 : decode cX5_left 14 = .ok (.bipush (-5), 2) := by decide +kernel
theorem dX5_left_16 : decode cX5_left 16 = .ok (.ireturn, 1) := by decide +kernel
theorem dX5_left_17 : decode cX5_left 17 = .ok (.iload_n 2, 1) := by decide +kernel
theorem dX5_left_18 : decode cX5_left 18 = .ok (.invokestatic 104, 3) := by decide +kernel
theorem dX5_left_21 : decode cX5_left 21 = .ok (.ifCond .ne 6, 3) := by decide +kernel
theorem dX5_left_24 : decode cX5_left 24 = .ok (.bipush (-7), 2) := by decide +kernel
theorem dX5_left_26 : decode cX5_left 26 = .ok (.ireturn, 1) := by decide +kernel
theorem dX5_left_27 : decode cX5_left 27 = .ok (.aload_n 0, 1) := by decide +kernel
theorem dX5_left_28 : decode cX5_left 28 = .ok (.iload_n 1, 1) := by decide +kernel
theorem dX5_left_29 : decode cX5_left 29 = .ok (.iload_n 2, 1) := by decide +kernel
theorem dX5_left_30 : decode cX5_left 30 = .ok (.invokevirtual 163, 3) := by decide +kernel
theorem dX5_left_33 : decode cX5_left 33 = .ok (.pop, 1) := by decide +kernel
theorem dX5_left_34 : decode cX5_left 34 = .ok (.aload_n 0, 1) := by decide +kernel
theorem dX5_left_35 : decode cX5_left 35 = .ok (.getfield 35, 3) := by decide +kernel
theorem dX5_left_38 : decode cX5_left 38 = .ok (.getfield 167, 3) := by decide +kernel
theorem dX5_left_41 : decode cX5_left 41 = .ok (.iload_n 3, 1) := by decide +kernel
theorem dX5_left_42 : decode cX5_left 42 = .ok (.invokestatic 139, 3) := by decide +kernel
theorem dX5_left_45 : decode cX5_left 45 = .ok (.ifCond .eq 15, 3) := by decide +kernel
theorem dX5_left_48 : decode cX5_left 48 = .ok (.aload_n 0, 1) := by decide +kernel
theorem dX5_left_49 : decode cX5_left 49 = .ok (.getfield 35, 3) := by decide +kernel
theorem dX5_left_52 : decode cX5_left 52 = .ok (.getfield 179, 3) := by decide +kernel
theorem dX5_left_55 : decode cX5_left 55 = .ok (.iload_n 3, 1) := by decide +kernel
theorem dX5_left_56 : decode cX5_left 56 = .ok (.iaload, 1) := by decide +kernel
theorem dX5_left_57 : decode cX5_left 57 = .ok (.goto 4, 3) := by decide +kernel
theorem dX5_left_60 : decode cX5_left 60 = .ok (.iconst (-1), 1) := by decide +kernel
theorem dX5_left_61 : decode cX5_left 61 = .ok (.ireturn, 1) := by decide +kernel
theorem dX5_most_0 : decode cX5_most 0 = .ok (.iload_n 1, 1) := by decide +kernel
theorem dX5_most_1 : decode cX5_most 1 = .ok (.invokestatic 104, 3) := by decide +kernel
theorem dX5_most_4 : decode cX5_most 4 = .ok (.ifCond .eq 12, 3) := by decide +kernel
theorem dX5_most_7 : decode cX5_most 7 = .ok (.iload_n 2, 1) := by decide +kernel
theorem dX5_most_8 : decode cX5_most 8 = .ok (.iconst 0, 1) := by decide +kernel
theorem dX5_most_9 : decode cX5_most 9 = .ok (.iconst 1, 1) := by decide +kernel
theorem dX5_most_10 : decode cX5_most 10 = .ok (.invokestatic 97, 3) := by decide +kernel
theorem dX5_most_13 : decode cX5_most 13 = .ok (.ifCond .ne 6, 3) := by decide +kernel
theorem dX5_most_16 : decode cX5_most 16 = .ok (.bipush (-2), 2) := by decide +kernel
theorem dX5_most_18 : decode cX5_most 18 = .ok (.ireturn, 1) := by decide +kernel
theorem dX5_most_19 : decode cX5_most 19 = .ok (.iconst 0, 1) := by decide +kernel
theorem dX5_most_20 : decode cX5_most 20 = .ok (.istore_n 3, 1) := by decide +kernel
theorem dX5_most_21 : decode cX5_most 21 = .ok (.iconst (-1), 1) := by decide +kernel
theorem dX5_most_22 : decode cX5_most 22 = .ok (.istore 4, 2) := by decide +kernel
theorem dX5_most_24 : decode cX5_most 24 = .ok (.iconst 0, 1) := by decide +kernel
theorem dX5_most_25 : decode cX5_most 25 = .ok (.istore 5, 2) := by decide +kernel
theorem dX5_most_27 : decode cX5_most 27 = .ok (.iload 5, 2) := by decide +kernel
theorem dX5_most_29 : decode cX5_most 29 = .ok (.bipush 48, 2) := by decide +kernel
theorem dX5_most_31 : decode cX5_most 31 = .ok (.if_icmp .ge 32, 3) := by decide +kernel
theorem dX5_most_34 : decode cX5_most 34 = .ok (.aload_n 0, 1) := by decide +kernel
theorem dX5_most_35 : decode cX5_most 35 = .ok (.iload 5, 2) := by decide +kernel
theorem dX5_most_37 : decode cX5_most 37 = .ok (.iload_n 1, 1) := by decide +kernel
theorem dX5_most_38 : decode cX5_most 38 = .ok (.invokevirtual 163, 3) := by decide +kernel
theorem dX5_most_41 : decode cX5_most 41 = .ok (.istore 6, 2) := by decide +kernel
theorem dX5_most_43 : decode cX5_most 43 = .ok (.iload 6, 2) := by decide +kernel
theorem dX5_most_45 : decode cX5_most 45 = .ok (.iload 4, 2) := by decide +kernel
theorem dX5_most_47 : decode cX5_most 47 = .ok (.if_icmp .le 10, 3) := by decide +kernel
theorem dX5_most_50 : decode cX5_most 50 = .ok (.iload 5, 2) := by decide +kernel
theorem dX5_most_52 : decode cX5_most 52 = .ok (.istore_n 3, 1) := by decide +kernel
theorem dX5_most_53 : decode cX5_most 53 = .ok (.iload 6, 2) := by decide +kernel
theorem dX5_most_55 : decode cX5_most 55 = .ok (.istore 4, 2) := by decide +kernel
theorem dX5_most_57 : decode cX5_most 57 = .ok (.iinc 5 1, 3) := by decide +kernel
theorem dX5_most_60 : decode cX5_most 60 = .ok (.goto (-33), 3) := by decide +kernel
theorem dX5_most_63 : decode cX5_most 63 = .ok (.iload_n 2, 1) := by decide +kernel
theorem dX5_most_64 : decode cX5_most 64 = .ok (.ifCond .ne 7, 3) := by decide +kernel
theorem dX5_most_67 : decode cX5_most 67 = .ok (.iload_n 3, 1) := by decide +kernel
theorem dX5_most_68 : decode cX5_most 68 = .ok (.goto 5, 3) := by decide +kernel
theorem dX5_most_71 : decode cX5_most 71 = .ok (.iload 4, 2) := by decide +kernel
theorem dX5_most_73 : decode cX5_most 73 = .ok (.ireturn, 1) := by decide +kernel
theorem dX5_column_0 : decode cX5_column 0 = .ok (.iload_n 1, 1) := by decide +kernel
theorem dX5_column_1 : decode cX5_column 1 = .ok (.iconst 0, 1) := by decide +kernel
theorem dX5_column_2 : decode cX5_column 2 = .ok (.iconst 5, 1) := by decide +kernel
theorem dX5_column_3 : decode cX5_column 3 = .ok (.invokestatic 97, 3) := by decide +kernel
theorem dX5_column_6 : decode cX5_column 6 = .ok (.ifCond .ne 6, 3) := by decide +kernel
theorem dX5_column_9 : decode cX5_column 9 = .ok (.bipush (-5), 2) := by decide +kernel
theorem dX5_column_11 : decode cX5_column 11 = .ok (.ireturn, 1) := by decide +kernel
theorem dX5_column_12 : decode cX5_column 12 = .ok (.iload_n 2, 1) := by decide +kernel
theorem dX5_column_13 : decode cX5_column 13 = .ok (.invokestatic 104, 3) := by decide +kernel
theorem dX5_column_16 : decode cX5_column 16 = .ok (.ifCond .eq 12, 3) := by decide +kernel
theorem dX5_column_19 : decode cX5_column 19 = .ok (.iload_n 3, 1) := by decide +kernel
theorem dX5_column_20 : decode cX5_column 20 = .ok (.iconst 0, 1) := by decide +kernel
theorem dX5_column_21 : decode cX5_column 21 = .ok (.iconst 1, 1) := by decide +kernel
theorem dX5_column_22 : decode cX5_column 22 = .ok (.invokestatic 97, 3) := by decide +kernel
theorem dX5_column_25 : decode cX5_column 25 = .ok (.ifCond .ne 6, 3) := by decide +kernel
theorem dX5_column_28 : decode cX5_column 28 = .ok (.bipush (-7), 2) := by decide +kernel
theorem dX5_column_30 : decode cX5_column 30 = .ok (.ireturn, 1) := by decide +kernel
theorem dX5_column_31 : decode cX5_column 31 = .ok (.lconst 0, 1) := by decide +kernel
theorem dX5_column_32 : decode cX5_column 32 = .ok (.lstore 4, 2) := by decide +kernel
theorem dX5_column_34 : decode cX5_column 34 = .ok (.iconst 0, 1) := by decide +kernel
theorem dX5_column_35 : decode cX5_column 35 = .ok (.istore 6, 2) := by decide +kernel
theorem dX5_column_37 : decode cX5_column 37 = .ok (.iload 6, 2) := by decide +kernel
theorem dX5_column_39 : decode cX5_column 39 = .ok (.bipush 8, 2) := by decide +kernel
theorem dX5_column_41 : decode cX5_column 41 = .ok (.if_icmp .ge 24, 3) := by decide +kernel
theorem dX5_column_44 : decode cX5_column 44 = .ok (.lload 4, 2) := by decide +kernel
theorem dX5_column_46 : decode cX5_column 46 = .ok (.iload 6, 2) := by decide +kernel
theorem dX5_column_48 : decode cX5_column 48 = .ok (.bipush 6, 2) := by decide +kernel
theorem dX5_column_50 : decode cX5_column 50 = .ok (.imul, 1) := by decide +kernel
theorem dX5_column_51 : decode cX5_column 51 = .ok (.iload_n 1, 1) := by decide +kernel
theorem dX5_column_52 : decode cX5_column 52 = .ok (.iadd, 1) := by decide +kernel
theorem dX5_column_53 : decode cX5_column 53 = .ok (.invokestatic 143, 3) := by decide +kernel
theorem dX5_column_56 : decode cX5_column 56 = .ok (.lor, 1) := by decide +kernel
theorem dX5_column_57 : decode cX5_column 57 = .ok (.lstore 4, 2) := by decide +kernel
theorem dX5_column_59 : decode cX5_column 59 = .ok (.iinc 6 1, 3) := by decide +kernel
theorem dX5_column_62 : decode cX5_column 62 = .ok (.goto (-25), 3) := by decide +kernel
theorem dX5_column_65 : decode cX5_column 65 = .ok (.aload_n 0, 1) := by decide +kernel
theorem dX5_column_66 : decode cX5_column 66 = .ok (.getfield 35, 3) := by decide +kernel
theorem dX5_column_69 : decode cX5_column 69 = .ok (.aload_n 0, 1) := by decide +kernel
theorem dX5_column_70 : decode cX5_column 70 = .ok (.getfield 10, 3) := by decide +kernel
theorem dX5_column_73 : decode cX5_column 73 = .ok (.aload_n 0, 1) := by decide +kernel
theorem dX5_column_74 : decode cX5_column 74 = .ok (.invokevirtual 107, 3) := by decide +kernel
theorem dX5_column_77 : decode cX5_column 77 = .ok (.lload 4, 2) := by decide +kernel
theorem dX5_column_79 : decode cX5_column 79 = .ok (.lconst 0, 1) := by decide +kernel
theorem dX5_column_80 : decode cX5_column 80 = .ok (.iload_n 2, 1) := by decide +kernel
theorem dX5_column_81 : decode cX5_column 81 = .ok (.invokevirtual 182, 3) := by decide +kernel
theorem dX5_column_84 : decode cX5_column 84 = .ok (.pop, 1) := by decide +kernel
theorem dX5_column_85 : decode cX5_column 85 = .ok (.iload_n 3, 1) := by decide +kernel
theorem dX5_column_86 : decode cX5_column 86 = .ok (.ifCond .ne 13, 3) := by decide +kernel
theorem dX5_column_89 : decode cX5_column 89 = .ok (.aload_n 0, 1) := by decide +kernel
theorem dX5_column_90 : decode cX5_column 90 = .ok (.getfield 35, 3) := by decide +kernel
theorem dX5_column_93 : decode cX5_column 93 = .ok (.getfield 167, 3) := by decide +kernel
theorem dX5_column_96 : decode cX5_column 96 = .ok (.goto 17, 3) := by decide +kernel
theorem dX5_column_99 : decode cX5_column 99 = .ok (.aload_n 0, 1) := by decide +kernel
theorem dX5_column_100 : decode cX5_column 100 = .ok (.getfield 35, 3) := by decide +kernel
theorem dX5_column_103 : decode cX5_column 103 = .ok (.getfield 167, 3) := by decide +kernel
theorem dX5_column_106 : decode cX5_column 106 = .ok (.lload 4, 2) := by decide +kernel
theorem dX5_column_108 : decode cX5_column 108 = .ok (.ldc2_w 147, 3) := by decide +kernel
theorem dX5_column_111 : decode cX5_column 111 = .ok (.lxor, 1) := by decide +kernel
theorem dX5_column_112 : decode cX5_column 112 = .ok (.land, 1) := by decide +kernel
theorem dX5_column_113 : decode cX5_column 113 = .ok (.invokestatic 74, 3) := by decide +kernel
theorem dX5_column_116 : decode cX5_column 116 = .ok (.ireturn, 1) := by decide +kernel
theorem dX5_line_0 : decode cX5_line 0 = .ok (.iload_n 1, 1) := by decide +kernel
theorem dX5_line_1 : decode cX5_line 1 = .ok (.invokestatic 101, 3) := by decide +kernel
theorem dX5_line_4 : decode cX5_line 4 = .ok (.ifCond .ne 6, 3) := by decide +kernel
theorem dX5_line_7 : decode cX5_line 7 = .ok (.bipush (-5), 2) := by decide +kernel
theorem dX5_line_9 : decode cX5_line 9 = .ok (.ireturn, 1) := by decide +kernel
theorem dX5_line_10 : decode cX5_line 10 = .ok (.iload_n 2, 1) := by decide +kernel
theorem dX5_line_11 : decode cX5_line 11 = .ok (.iconst 0, 1) := by decide +kernel
theorem dX5_line_12 : decode cX5_line 12 = .ok (.bipush 48, 2) := by decide +kernel
theorem dX5_line_14 : decode cX5_line 14 = .ok (.invokestatic 97, 3) := by decide +kernel
theorem dX5_line_17 : decode cX5_line 17 = .ok (.ifCond .ne 6, 3) := by decide +kernel
theorem dX5_line_20 : decode cX5_line 20 = .ok (.bipush (-7), 2) := by decide +kernel
theorem dX5_line_22 : decode cX5_line 22 = .ok (.ireturn, 1) := by decide +kernel
theorem dX5_line_23 : decode cX5_line 23 = .ok (.iconst 0, 1) := by decide +kernel
theorem dX5_line_24 : decode cX5_line 24 = .ok (.istore_n 3, 1) := by decide +kernel
theorem dX5_line_25 : decode cX5_line 25 = .ok (.iload_n 3, 1) := by decide +kernel
theorem dX5_line_26 : decode cX5_line 26 = .ok (.bipush 99, 2) := by decide +kernel
theorem dX5_line_28 : decode cX5_line 28 = .ok (.if_icmp .gt 21, 3) := by decide +kernel
theorem dX5_line_31 : decode cX5_line 31 = .ok (.aload_n 0, 1) := by decide +kernel
theorem dX5_line_32 : decode cX5_line 32 = .ok (.iload_n 1, 1) := by decide +kernel
theorem dX5_line_33 : decode cX5_line 33 = .ok (.iload_n 3, 1) := by decide +kernel
theorem dX5_line_34 : decode cX5_line 34 = .ok (.invokevirtual 163, 3) := by decide +kernel
theorem dX5_line_37 : decode cX5_line 37 = .ok (.iload_n 2, 1) := by decide +kernel
theorem dX5_line_38 : decode cX5_line 38 = .ok (.if_icmp .le 5, 3) := by decide +kernel
theorem dX5_line_41 : decode cX5_line 41 = .ok (.iload_n 3, 1) := by decide +kernel
theorem dX5_line_42 : decode cX5_line 42 = .ok (.ireturn, 1) := by decide +kernel
theorem dX5_line_43 : decode cX5_line 43 = .ok (.iinc 3 1, 3) := by decide +kernel
theorem dX5_line_46 : decode cX5_line 46 = .ok (.goto (-21), 3) := by decide +kernel
theorem dX5_line_49 : decode cX5_line 49 = .ok (.iconst (-1), 1) := by decide +kernel
theorem dX5_line_50 : decode cX5_line 50 = .ok (.ireturn, 1) := by decide +kernel
theorem dX5_reach_0 : decode cX5_reach 0 = .ok (.iload_n 1, 1) := by decide +kernel
theorem dX5_reach_1 : decode cX5_reach 1 = .ok (.invokestatic 101, 3) := by decide +kernel
theorem dX5_reach_4 : decode cX5_reach 4 = .ok (.ifCond .eq 10, 3) := by decide +kernel
theorem dX5_reach_7 : decode cX5_reach 7 = .ok (.iload_n 2, 1) := by decide +kernel
theorem dX5_reach_8 : decode cX5_reach 8 = .ok (.invokestatic 101, 3) := by decide +kernel
theorem dX5_reach_11 : decode cX5_reach 11 = .ok (.ifCond .ne 6, 3) := by decide +kernel
theorem dX5_reach_14 : decode cX5_reach 14 = .ok (.bipush (-5), 2) := by decide +kernel
theorem dX5_reach_16 : decode cX5_reach 16 = .ok (.ireturn, 1) := by decide +kernel
theorem dX5_reach_17 : decode cX5_reach 17 = .ok (.iconst 0, 1) := by decide +kernel
theorem dX5_reach_18 : decode cX5_reach 18 = .ok (.istore_n 3, 1) := by decide +kernel
theorem dX5_reach_19 : decode cX5_reach 19 = .ok (.iload_n 3, 1) := by decide +kernel
theorem dX5_reach_20 : decode cX5_reach 20 = .ok (.bipush 99, 2) := by decide +kernel
theorem dX5_reach_22 : decode cX5_reach 22 = .ok (.if_icmp .gt 32, 3) := by decide +kernel
theorem dX5_reach_25 : decode cX5_reach 25 = .ok (.aload_n 0, 1) := by decide +kernel
theorem dX5_reach_26 : decode cX5_reach 26 = .ok (.iload_n 1, 1) := by decide +kernel
theorem dX5_reach_27 : decode cX5_reach 27 = .ok (.iload_n 3, 1) := by decide +kernel
theorem dX5_reach_28 : decode cX5_reach 28 = .ok (.invokevirtual 163, 3) := by decide +kernel
theorem dX5_reach_31 : decode cX5_reach 31 = .ok (.pop, 1) := by decide +kernel
theorem dX5_reach_32 : decode cX5_reach 32 = .ok (.aload_n 0, 1) := by decide +kernel
theorem dX5_reach_33 : decode cX5_reach 33 = .ok (.getfield 35, 3) := by decide +kernel
theorem dX5_reach_36 : decode cX5_reach 36 = .ok (.getfield 167, 3) := by decide +kernel
theorem dX5_reach_39 : decode cX5_reach 39 = .ok (.iload_n 2, 1) := by decide +kernel
theorem dX5_reach_40 : decode cX5_reach 40 = .ok (.invokestatic 139, 3) := by decide +kernel
theorem dX5_reach_43 : decode cX5_reach 43 = .ok (.ifCond .eq 5, 3) := by decide +kernel
theorem dX5_reach_46 : decode cX5_reach 46 = .ok (.iload_n 3, 1) := by decide +kernel
theorem dX5_reach_47 : decode cX5_reach 47 = .ok (.ireturn, 1) := by decide +kernel
theorem dX5_reach_48 : decode cX5_reach 48 = .ok (.iinc 3 1, 3) := by decide +kernel
theorem dX5_reach_51 : decode cX5_reach 51 = .ok (.goto (-32), 3) := by decide +kernel
theorem dX5_reach_54 : decode cX5_reach 54 = .ok (.iconst (-1), 1) := by decide +kernel
theorem dX5_reach_55 : decode cX5_reach 55 = .ok (.ireturn, 1) := by decide +kernel
theorem dX5_two_0 : decode cX5_two 0 = .ok (.iload_n 1, 1) := by decide +kernel
theorem dX5_two_1 : decode cX5_two 1 = .ok (.invokestatic 104, 3) := by decide +kernel
theorem dX5_two_4 : decode cX5_two 4 = .ok (.ifCond .eq 12, 3) := by decide +kernel
theorem dX5_two_7 : decode cX5_two 7 = .ok (.iload_n 2, 1) := by decide +kernel
theorem dX5_two_8 : decode cX5_two 8 = .ok (.iconst 0, 1) := by decide +kernel
theorem dX5_two_9 : decode cX5_two 9 = .ok (.iconst 2, 1) := by decide +kernel
theorem dX5_two_10 : decode cX5_two 10 = .ok (.invokestatic 97, 3) := by decide +kernel
theorem dX5_two_13 : decode cX5_two 13 = .ok (.ifCond .ne 6, 3) := by decide +kernel
theorem dX5_two_16 : decode cX5_two 16 = .ok (.bipush (-2), 2) := by decide +kernel
theorem dX5_two_18 : decode cX5_two 18 = .ok (.ireturn, 1) := by decide +kernel
theorem dX5_two_19 : decode cX5_two 19 = .ok (.iconst 0, 1) := by decide +kernel
theorem dX5_two_20 : decode cX5_two 20 = .ok (.istore_n 3, 1) := by decide +kernel
theorem dX5_two_21 : decode cX5_two 21 = .ok (.iload_n 3, 1) := by decide +kernel
theorem dX5_two_22 : decode cX5_two 22 = .ok (.bipush 48, 2) := by decide +kernel
theorem dX5_two_24 : decode cX5_two 24 = .ok (.if_icmp .ge 29, 3) := by decide +kernel
theorem dX5_two_27 : decode cX5_two 27 = .ok (.aload_n 0, 1) := by decide +kernel
theorem dX5_two_28 : decode cX5_two 28 = .ok (.iload_n 3, 1) := by decide +kernel
theorem dX5_two_29 : decode cX5_two 29 = .ok (.iload_n 1, 1) := by decide +kernel
theorem dX5_two_30 : decode cX5_two 30 = .ok (.invokevirtual 163, 3) := by decide +kernel
theorem dX5_two_33 : decode cX5_two 33 = .ok (.pop, 1) := by decide +kernel
theorem dX5_two_34 : decode cX5_two 34 = .ok (.aload_n 0, 1) := by decide +kernel
theorem dX5_two_35 : decode cX5_two 35 = .ok (.getfield 45, 3) := by decide +kernel
theorem dX5_two_38 : decode cX5_two 38 = .ok (.iload_n 3, 1) := by decide +kernel
theorem dX5_two_39 : decode cX5_two 39 = .ok (.aload_n 0, 1) := by decide +kernel
theorem dX5_two_40 : decode cX5_two 40 = .ok (.getfield 35, 3) := by decide +kernel
theorem dX5_two_43 : decode cX5_two 43 = .ok (.getfield 167, 3) := by decide +kernel
theorem dX5_two_46 : decode cX5_two 46 = .ok (.lastore, 1) := by decide +kernel
theorem dX5_two_47 : decode cX5_two 47 = .ok (.iinc 3 1, 3) := by decide +kernel
theorem dX5_two_50 : decode cX5_two 50 = .ok (.goto (-29), 3) := by decide +kernel
theorem dX5_two_53 : decode cX5_two 53 = .ok (.iconst 0, 1) := by decide +kernel
theorem dX5_two_54 : decode cX5_two 54 = .ok (.istore_n 3, 1) := by decide +kernel
theorem dX5_two_55 : decode cX5_two 55 = .ok (.iconst 1, 1) := by decide +kernel
theorem dX5_two_56 : decode cX5_two 56 = .ok (.istore 4, 2) := by decide +kernel
theorem dX5_two_58 : decode cX5_two 58 = .ok (.iconst (-1), 1) := by decide +kernel
theorem dX5_two_59 : decode cX5_two 59 = .ok (.istore 5, 2) := by decide +kernel
theorem dX5_two_61 : decode cX5_two 61 = .ok (.iconst 0, 1) := by decide +kernel
theorem dX5_two_62 : decode cX5_two 62 = .ok (.istore 6, 2) := by decide +kernel
theorem dX5_two_64 : decode cX5_two 64 = .ok (.iload 6, 2) := by decide +kernel
theorem dX5_two_66 : decode cX5_two 66 = .ok (.bipush 48, 2) := by decide +kernel
theorem dX5_two_68 : decode cX5_two 68 = .ok (.if_icmp .ge 57, 3) := by decide +kernel
theorem dX5_two_71 : decode cX5_two 71 = .ok (.iload 6, 2) := by decide +kernel
theorem dX5_two_73 : decode cX5_two 73 = .ok (.iconst 1, 1) := by decide +kernel
theorem dX5_two_74 : decode cX5_two 74 = .ok (.iadd, 1) := by decide +kernel
theorem dX5_two_75 : decode cX5_two 75 = .ok (.istore 7, 2) := by decide +kernel
theorem dX5_two_77 : decode cX5_two 77 = .ok (.iload 7, 2) := by decide +kernel
theorem dX5_two_79 : decode cX5_two 79 = .ok (.bipush 48, 2) := by decide +kernel
theorem dX5_two_81 : decode cX5_two 81 = .ok (.if_icmp .ge 38, 3) := by decide +kernel
theorem dX5_two_84 : decode cX5_two 84 = .ok (.aload_n 0, 1) := by decide +kernel
theorem dX5_two_85 : decode cX5_two 85 = .ok (.iload 6, 2) := by decide +kernel
theorem dX5_two_87 : decode cX5_two 87 = .ok (.iload 7, 2) := by decide +kernel
theorem dX5_two_89 : decode cX5_two 89 = .ok (.iload_n 1, 1) := by decide +kernel
theorem dX5_two_90 : decode cX5_two 90 = .ok (.invokevirtual 186, 3) := by decide +kernel
theorem dX5_two_93 : decode cX5_two 93 = .ok (.istore 8, 2) := by decide +kernel
theorem dX5_two_95 : decode cX5_two 95 = .ok (.iload 8, 2) := by decide +kernel
theorem dX5_two_97 : decode cX5_two 97 = .ok (.iload 5, 2) := by decide +kernel
theorem dX5_two_99 : decode cX5_two 99 = .ok (.if_icmp .le 14, 3) := by decide +kernel
theorem dX5_two_102 : decode cX5_two 102 = .ok (.iload 6, 2) := by decide +kernel
theorem dX5_two_104 : decode cX5_two 104 = .ok (.istore_n 3, 1) := by decide +kernel
theorem dX5_two_105 : decode cX5_two 105 = .ok (.iload 7, 2) := by decide +kernel
theorem dX5_two_107 : decode cX5_two 107 = .ok (.istore 4, 2) := by decide +kernel
theorem dX5_two_109 : decode cX5_two 109 = .ok (.iload 8, 2) := by decide +kernel
theorem dX5_two_111 : decode cX5_two 111 = .ok (.istore 5, 2) := by decide +kernel
theorem dX5_two_113 : decode cX5_two 113 = .ok (.iinc 7 1, 3) := by decide +kernel
theorem dX5_two_116 : decode cX5_two 116 = .ok (.goto (-39), 3) := by decide +kernel
theorem dX5_two_119 : decode cX5_two 119 = .ok (.iinc 6 1, 3) := by decide +kernel
theorem dX5_two_122 : decode cX5_two 122 = .ok (.goto (-58), 3) := by decide +kernel
theorem dX5_two_125 : decode cX5_two 125 = .ok (.iload_n 2, 1) := by decide +kernel
theorem dX5_two_126 : decode cX5_two 126 = .ok (.lookupswitch 37 #[(0, 26), (1, 34)], 26) := by decide +kernel
theorem dX5_two_152 : decode cX5_two 152 = .ok (.bipush 100, 2) := by decide +kernel
theorem dX5_two_154 : decode cX5_two 154 = .ok (.iload_n 3, 1) := by decide +kernel
theorem dX5_two_155 : decode cX5_two 155 = .ok (.imul, 1) := by decide +kernel
theorem dX5_two_156 : decode cX5_two 156 = .ok (.iload 4, 2) := by decide +kernel
theorem dX5_two_158 : decode cX5_two 158 = .ok (.iadd, 1) := by decide +kernel
theorem dX5_two_159 : decode cX5_two 159 = .ok (.ireturn, 1) := by decide +kernel
theorem dX5_two_160 : decode cX5_two 160 = .ok (.iload 5, 2) := by decide +kernel
theorem dX5_two_162 : decode cX5_two 162 = .ok (.ireturn, 1) := by decide +kernel
theorem dX5_two_163 : decode cX5_two 163 = .ok (.iload 5, 2) := by decide +kernel
theorem dX5_two_165 : decode cX5_two 165 = .ok (.aload_n 0, 1) := by decide +kernel
theorem dX5_two_166 : decode cX5_two 166 = .ok (.getfield 45, 3) := by decide +kernel
theorem dX5_two_169 : decode cX5_two 169 = .ok (.iload_n 3, 1) := by decide +kernel
theorem dX5_two_170 : decode cX5_two 170 = .ok (.laload, 1) := by decide +kernel
theorem dX5_two_171 : decode cX5_two 171 = .ok (.aload_n 0, 1) := by decide +kernel
theorem dX5_two_172 : decode cX5_two 172 = .ok (.getfield 45, 3) := by decide +kernel
theorem dX5_two_175 : decode cX5_two 175 = .ok (.iload 4, 2) := by decide +kernel
theorem dX5_two_177 : decode cX5_two 177 = .ok (.laload, 1) := by decide +kernel
theorem dX5_two_178 : decode cX5_two 178 = .ok (.lor, 1) := by decide +kernel
theorem dX5_two_179 : decode cX5_two 179 = .ok (.invokestatic 74, 3) := by decide +kernel
theorem dX5_two_182 : decode cX5_two 182 = .ok (.isub, 1) := by decide +kernel
theorem dX5_two_183 : decode cX5_two 183 = .ok (.ireturn, 1) := by decide +kernel
theorem dX5_all_0 : decode cX5_all 0 = .ok (.iload_n 1, 1) := by decide +kernel
theorem dX5_all_1 : decode cX5_all 1 = .ok (.invokestatic 101, 3) := by decide +kernel
theorem dX5_all_4 : decode cX5_all 4 = .ok (.ifCond .ne 6, 3) := by decide +kernel
theorem dX5_all_7 : decode cX5_all 7 = .ok (.bipush (-5), 2) := by decide +kernel
theorem dX5_all_9 : decode cX5_all 9 = .ok (.ireturn, 1) := by decide +kernel
theorem dX5_all_10 : decode cX5_all 10 = .ok (.aload_n 0, 1) := by decide +kernel
theorem dX5_all_11 : decode cX5_all 11 = .ok (.iload_n 1, 1) := by decide +kernel
theorem dX5_all_12 : decode cX5_all 12 = .ok (.bipush 99, 2) := by decide +kernel
theorem dX5_all_14 : decode cX5_all 14 = .ok (.invokevirtual 163, 3) := by decide +kernel
theorem dX5_all_17 : decode cX5_all 17 = .ok (.istore_n 2, 1) := by decide +kernel
theorem dX5_all_18 : decode cX5_all 18 = .ok (.bipush 99, 2) := by decide +kernel
theorem dX5_all_20 : decode cX5_all 20 = .ok (.istore_n 3, 1) := by decide +kernel
theorem dX5_all_21 : decode cX5_all 21 = .ok (.bipush 98, 2) := by decide +kernel
theorem dX5_all_23 : decode cX5_all 23 = .ok (.istore 4, 2) := by decide +kernel
theorem dX5_all_25 : decode cX5_all 25 = .ok (.iload 4, 2) := by decide +kernel
theorem dX5_all_27 : decode cX5_all 27 = .ok (.ifCond .lt 23, 3) := by decide +kernel
theorem dX5_all_30 : decode cX5_all 30 = .ok (.aload_n 0, 1) := by decide +kernel
theorem dX5_all_31 : decode cX5_all 31 = .ok (.iload_n 1, 1) := by decide +kernel
theorem dX5_all_32 : decode cX5_all 32 = .ok (.iload 4, 2) := by decide +kernel
theorem dX5_all_34 : decode cX5_all 34 = .ok (.invokevirtual 163, 3) := by decide +kernel
theorem dX5_all_37 : decode cX5_all 37 = .ok (.iload_n 2, 1) := by decide +kernel
theorem dX5_all_38 : decode cX5_all 38 = .ok (.if_icmp .lt 12, 3) := by decide +kernel
theorem dX5_all_41 : decode cX5_all 41 = .ok (.iload 4, 2) := by decide +kernel
theorem dX5_all_43 : decode cX5_all 43 = .ok (.istore_n 3, 1) := by decide +kernel
theorem dX5_all_44 : decode cX5_all 44 = .ok (.iinc 4 (-1), 3) := by decide +kernel
theorem dX5_all_47 : decode cX5_all 47 = .ok (.goto (-22), 3) := by decide +kernel
theorem dX5_all_50 : decode cX5_all 50 = .ok (.iload_n 3, 1) := by decide +kernel
theorem dX5_all_51 : decode cX5_all 51 = .ok (.ireturn, 1) := by decide +kernel
theorem dX5_counts_0 : decode cX5_counts 0 = .ok (.iload_n 1, 1) := by decide +kernel
theorem dX5_counts_1 : decode cX5_counts 1 = .ok (.invokestatic 126, 3) := by decide +kernel
theorem dX5_counts_4 : decode cX5_counts 4 = .ok (.ifCond .ne 6, 3) := by decide +kernel
theorem dX5_counts_7 : decode cX5_counts 7 = .ok (.bipush (-5), 2) := by decide +kernel
theorem dX5_counts_9 : decode cX5_counts 9 = .ok (.ireturn, 1) := by decide +kernel
theorem dX5_counts_10 : decode cX5_counts 10 = .ok (.iload_n 2, 1) := by decide +kernel
theorem dX5_counts_11 : decode cX5_counts 11 = .ok (.tableswitch 43 0 2 #[25, 31, 37], 25) := by decide +kernel
theorem dX5_counts_36 : decode cX5_counts 36 = .ok (.aload_n 0, 1) := by decide +kernel
theorem dX5_counts_37 : decode cX5_counts 37 = .ok (.iload_n 1, 1) := by decide +kernel
theorem dX5_counts_38 : decode cX5_counts 38 = .ok (.invokevirtual 190, 3) := by decide +kernel
theorem dX5_counts_41 : decode cX5_counts 41 = .ok (.ireturn, 1) := by decide +kernel
theorem dX5_counts_42 : decode cX5_counts 42 = .ok (.aload_n 0, 1) := by decide +kernel
theorem dX5_counts_43 : decode cX5_counts 43 = .ok (.iload_n 1, 1) := by decide +kernel
theorem dX5_counts_44 : decode cX5_counts 44 = .ok (.invokevirtual 193, 3) := by decide +kernel
theorem dX5_counts_47 : decode cX5_counts 47 = .ok (.ireturn, 1) := by decide +kernel
theorem dX5_counts_48 : decode cX5_counts 48 = .ok (.aload_n 0, 1) := by decide +kernel
theorem dX5_counts_49 : decode cX5_counts 49 = .ok (.iload_n 1, 1) := by decide +kernel
theorem dX5_counts_50 : decode cX5_counts 50 = .ok (.invokevirtual 196, 3) := by decide +kernel
theorem dX5_counts_53 : decode cX5_counts 53 = .ok (.ireturn, 1) := by decide +kernel
theorem dX5_counts_54 : decode cX5_counts 54 = .ok (.bipush (-7), 2) := by decide +kernel
theorem dX5_counts_56 : decode cX5_counts 56 = .ok (.ireturn, 1) := by decide +kernel
theorem dX5_slip_0 : decode cX5_slip 0 = .ok (.aload_n 0, 1) := by decide +kernel
theorem dX5_slip_1 : decode cX5_slip 1 = .ok (.iload_n 1, 1) := by decide +kernel
theorem dX5_slip_2 : decode cX5_slip 2 = .ok (.bipush 8, 2) := by decide +kernel
theorem dX5_slip_4 : decode cX5_slip 4 = .ok (.invokevirtual 199, 3) := by decide +kernel
theorem dX5_slip_7 : decode cX5_slip 7 = .ok (.istore_n 2, 1) := by decide +kernel
theorem dX5_slip_8 : decode cX5_slip 8 = .ok (.iload_n 2, 1) := by decide +kernel
theorem dX5_slip_9 : decode cX5_slip 9 = .ok (.ifCond .eq 5, 3) := by decide +kernel
theorem dX5_slip_12 : decode cX5_slip 12 = .ok (.iload_n 2, 1) := by decide +kernel
theorem dX5_slip_13 : decode cX5_slip 13 = .ok (.ireturn, 1) := by decide +kernel
theorem dX5_slip_14 : decode cX5_slip 14 = .ok (.iconst 1, 1) := by decide +kernel
theorem dX5_slip_15 : decode cX5_slip 15 = .ok (.istore_n 3, 1) := by decide +kernel
theorem dX5_slip_16 : decode cX5_slip 16 = .ok (.iload_n 3, 1) := by decide +kernel
theorem dX5_slip_17 : decode cX5_slip 17 = .ok (.bipush 8, 2) := by decide +kernel
theorem dX5_slip_19 : decode cX5_slip 19 = .ok (.if_icmp .ge 30, 3) := by decide +kernel
theorem dX5_slip_22 : decode cX5_slip 22 = .ok (.aload_n 0, 1) := by decide +kernel
theorem dX5_slip_23 : decode cX5_slip 23 = .ok (.getfield 41, 3) := by decide +kernel
theorem dX5_slip_26 : decode cX5_slip 26 = .ok (.iload_n 1, 1) := by decide +kernel
theorem dX5_slip_27 : decode cX5_slip 27 = .ok (.aaload, 1) := by decide +kernel
theorem dX5_slip_28 : decode cX5_slip 28 = .ok (.getfield 202, 3) := by decide +kernel
theorem dX5_slip_31 : decode cX5_slip 31 = .ok (.iload_n 3, 1) := by decide +kernel
theorem dX5_slip_32 : decode cX5_slip 32 = .ok (.iaload, 1) := by decide +kernel
theorem dX5_slip_33 : decode cX5_slip 33 = .ok (.aload_n 0, 1) := by decide +kernel
theorem dX5_slip_34 : decode cX5_slip 34 = .ok (.iload_n 3, 1) := by decide +kernel
theorem dX5_slip_35 : decode cX5_slip 35 = .ok (.invokevirtual 193, 3) := by decide +kernel
theorem dX5_slip_38 : decode cX5_slip 38 = .ok (.if_icmp .eq 5, 3) := by decide +kernel
theorem dX5_slip_41 : decode cX5_slip 41 = .ok (.iload_n 3, 1) := by decide +kernel
theorem dX5_slip_42 : decode cX5_slip 42 = .ok (.ireturn, 1) := by decide +kernel
theorem dX5_slip_43 : decode cX5_slip 43 = .ok (.iinc 3 1, 3) := by decide +kernel
theorem dX5_slip_46 : decode cX5_slip 46 = .ok (.goto (-30), 3) := by decide +kernel
theorem dX5_slip_49 : decode cX5_slip 49 = .ok (.iconst (-1), 1) := by decide +kernel
theorem dX5_slip_50 : decode cX5_slip 50 = .ok (.ireturn, 1) := by decide +kernel
theorem dX5_wrong_0 : decode cX5_wrong 0 = .ok (.aload_n 0, 1) := by decide +kernel
theorem dX5_wrong_1 : decode cX5_wrong 1 = .ok (.invokevirtual 205, 3) := by decide +kernel
theorem dX5_wrong_4 : decode cX5_wrong 4 = .ok (.lstore_n 1, 1) := by decide +kernel
theorem dX5_wrong_5 : decode cX5_wrong 5 = .ok (.iconst 0, 1) := by decide +kernel
theorem dX5_wrong_6 : decode cX5_wrong 6 = .ok (.istore_n 3, 1) := by decide +kernel
theorem dX5_wrong_7 : decode cX5_wrong 7 = .ok (.iconst 0, 1) := by decide +kernel
theorem dX5_wrong_8 : decode cX5_wrong 8 = .ok (.istore 4, 2) := by decide +kernel
theorem dX5_wrong_10 : decode cX5_wrong 10 = .ok (.iload 4, 2) := by decide +kernel
theorem dX5_wrong_12 : decode cX5_wrong 12 = .ok (.bipush 48, 2) := by decide +kernel
theorem dX5_wrong_14 : decode cX5_wrong 14 = .ok (.if_icmp .ge 28, 3) := by decide +kernel
theorem dX5_wrong_17 : decode cX5_wrong 17 = .ok (.lload_n 1, 1) := by decide +kernel
theorem dX5_wrong_18 : decode cX5_wrong 18 = .ok (.iload 4, 2) := by decide +kernel
theorem dX5_wrong_20 : decode cX5_wrong 20 = .ok (.invokestatic 139, 3) := by decide +kernel
theorem dX5_wrong_23 : decode cX5_wrong 23 = .ok (.ifCond .eq 13, 3) := by decide +kernel
theorem dX5_wrong_26 : decode cX5_wrong 26 = .ok (.iload_n 3, 1) := by decide +kernel
theorem dX5_wrong_27 : decode cX5_wrong 27 = .ok (.iconst 1, 1) := by decide +kernel
theorem dX5_wrong_28 : decode cX5_wrong 28 = .ok (.iload 4, 2) := by decide +kernel
theorem dX5_wrong_30 : decode cX5_wrong 30 = .ok (.bipush 6, 2) := by decide +kernel
theorem dX5_wrong_32 : decode cX5_wrong 32 = .ok (.idiv, 1) := by decide +kernel
theorem dX5_wrong_33 : decode cX5_wrong 33 = .ok (.ishl, 1) := by decide +kernel
theorem dX5_wrong_34 : decode cX5_wrong 34 = .ok (.ior, 1) := by decide +kernel
theorem dX5_wrong_35 : decode cX5_wrong 35 = .ok (.istore_n 3, 1) := by decide +kernel
theorem dX5_wrong_36 : decode cX5_wrong 36 = .ok (.iinc 4 1, 3) := by decide +kernel
theorem dX5_wrong_39 : decode cX5_wrong 39 = .ok (.goto (-29), 3) := by decide +kernel
theorem dX5_wrong_42 : decode cX5_wrong 42 = .ok (.iload_n 3, 1) := by decide +kernel
theorem dX5_wrong_43 : decode cX5_wrong 43 = .ok (.ireturn, 1) := by decide +kernel
theorem dX5_pinned_0 : decode cX5_pinned 0 = .ok (.iload_n 1, 1) := by decide +kernel
theorem dX5_pinned_1 : decode cX5_pinned 1 = .ok (.invokestatic 101, 3) := by decide +kernel
theorem dX5_pinned_4 : decode cX5_pinned 4 = .ok (.ifCond .ne 6, 3) := by decide +kernel
theorem dX5_pinned_7 : decode cX5_pinned 7 = .ok (.bipush (-5), 2) := by decide +kernel
theorem dX5_pinned_9 : decode cX5_pinned 9 = .ok (.ireturn, 1) := by decide +kernel
theorem dX5_pinned_10 : decode cX5_pinned 10 = .ok (.iload_n 2, 1) := by decide +kernel
theorem dX5_pinned_11 : decode cX5_pinned 11 = .ok (.invokestatic 104, 3) := by decide +kernel
theorem dX5_pinned_14 : decode cX5_pinned 14 = .ok (.ifCond .eq 23, 3) := by decide +kernel
theorem dX5_pinned_17 : decode cX5_pinned 17 = .ok (.iload_n 3, 1) := by decide +kernel
theorem dX5_pinned_18 : decode cX5_pinned 18 = .ok (.iconst 0, 1) := by decide +kernel
theorem dX5_pinned_19 : decode cX5_pinned 19 = .ok (.bipush 48, 2) := by decide +kernel
theorem dX5_pinned_21 : decode cX5_pinned 21 = .ok (.invokestatic 97, 3) := by decide +kernel
theorem dX5_pinned_24 : decode cX5_pinned 24 = .ok (.ifCond .eq 13, 3) := by decide +kernel
theorem dX5_pinned_27 : decode cX5_pinned 27 = .ok (.iload 4, 2) := by decide +kernel
theorem dX5_pinned_29 : decode cX5_pinned 29 = .ok (.iconst 0, 1) := by decide +kernel
theorem dX5_pinned_30 : decode cX5_pinned 30 = .ok (.iconst 2, 1) := by decide +kernel
theorem dX5_pinned_31 : decode cX5_pinned 31 = .ok (.invokestatic 97, 3) := by decide +kernel
theorem dX5_pinned_34 : decode cX5_pinned 34 = .ok (.ifCond .ne 6, 3) := by decide +kernel
theorem dX5_pinned_37 : decode cX5_pinned 37 = .ok (.bipush (-7), 2) := by decide +kernel
theorem dX5_pinned_39 : decode cX5_pinned 39 = .ok (.ireturn, 1) := by decide +kernel
theorem dX5_pinned_40 : decode cX5_pinned 40 = .ok (.aload_n 0, 1) := by decide +kernel
theorem dX5_pinned_41 : decode cX5_pinned 41 = .ok (.iload_n 1, 1) := by decide +kernel
theorem dX5_pinned_42 : decode cX5_pinned 42 = .ok (.iload_n 2, 1) := by decide +kernel
theorem dX5_pinned_43 : decode cX5_pinned 43 = .ok (.lconst 0, 1) := by decide +kernel
theorem dX5_pinned_44 : decode cX5_pinned 44 = .ok (.invokevirtual 209, 3) := by decide +kernel
theorem dX5_pinned_47 : decode cX5_pinned 47 = .ok (.iload_n 3, 1) := by decide +kernel
theorem dX5_pinned_48 : decode cX5_pinned 48 = .ok (.if_icmp .gt 14, 3) := by decide +kernel
theorem dX5_pinned_51 : decode cX5_pinned 51 = .ok (.iload 4, 2) := by decide +kernel
theorem dX5_pinned_53 : decode cX5_pinned 53 = .ok (.ifCond .ne 7, 3) := by decide +kernel
theorem dX5_pinned_56 : decode cX5_pinned 56 = .ok (.iconst 0, 1) := by decide +kernel
theorem dX5_pinned_57 : decode cX5_pinned 57 = .ok (.goto 4, 3) := by decide +kernel
theorem dX5_pinned_60 : decode cX5_pinned 60 = .ok (.iconst (-1), 1) := by decide +kernel
theorem dX5_pinned_61 : decode cX5_pinned 61 = .ok (.ireturn, 1) := by decide +kernel
theorem dX5_pinned_62 : decode cX5_pinned 62 = .ok (.aload_n 0, 1) := by decide +kernel
theorem dX5_pinned_63 : decode cX5_pinned 63 = .ok (.getfield 35, 3) := by decide +kernel
theorem dX5_pinned_66 : decode cX5_pinned 66 = .ok (.getfield 167, 3) := by decide +kernel
theorem dX5_pinned_69 : decode cX5_pinned 69 = .ok (.iload_n 1, 1) := by decide +kernel
theorem dX5_pinned_70 : decode cX5_pinned 70 = .ok (.invokestatic 143, 3) := by decide +kernel
theorem dX5_pinned_73 : decode cX5_pinned 73 = .ok (.ldc2_w 147, 3) := by decide +kernel
theorem dX5_pinned_76 : decode cX5_pinned 76 = .ok (.lxor, 1) := by decide +kernel
theorem dX5_pinned_77 : decode cX5_pinned 77 = .ok (.land, 1) := by decide +kernel
theorem dX5_pinned_78 : decode cX5_pinned 78 = .ok (.lstore 5, 2) := by decide +kernel
theorem dX5_pinned_80 : decode cX5_pinned 80 = .ok (.iconst 0, 1) := by decide +kernel
theorem dX5_pinned_81 : decode cX5_pinned 81 = .ok (.istore 7, 2) := by decide +kernel
theorem dX5_pinned_83 : decode cX5_pinned 83 = .ok (.iload 7, 2) := by decide +kernel
theorem dX5_pinned_85 : decode cX5_pinned 85 = .ok (.bipush 48, 2) := by decide +kernel
theorem dX5_pinned_87 : decode cX5_pinned 87 = .ok (.if_icmp .ge 56, 3) := by decide +kernel
theorem dX5_pinned_90 : decode cX5_pinned 90 = .ok (.lload 5, 2) := by decide +kernel
theorem dX5_pinned_92 : decode cX5_pinned 92 = .ok (.iload 7, 2) := by decide +kernel
theorem dX5_pinned_94 : decode cX5_pinned 94 = .ok (.invokestatic 139, 3) := by decide +kernel
theorem dX5_pinned_97 : decode cX5_pinned 97 = .ok (.ifCond .eq 40, 3) := by decide +kernel
theorem dX5_pinned_100 : decode cX5_pinned 100 = .ok (.aload_n 0, 1) := by decide +kernel
theorem dX5_pinned_101 : decode cX5_pinned 101 = .ok (.iload_n 1, 1) := by decide +kernel
theorem dX5_pinned_102 : decode cX5_pinned 102 = .ok (.iload_n 2, 1) := by decide +kernel
theorem dX5_pinned_103 : decode cX5_pinned 103 = .ok (.iload 7, 2) := by decide +kernel
theorem dX5_pinned_105 : decode cX5_pinned 105 = .ok (.invokestatic 143, 3) := by decide +kernel
theorem dX5_pinned_108 : decode cX5_pinned 108 = .ok (.invokevirtual 209, 3) := by decide +kernel
theorem dX5_pinned_111 : decode cX5_pinned 111 = .ok (.iload_n 3, 1) := by decide +kernel
theorem dX5_pinned_112 : decode cX5_pinned 112 = .ok (.if_icmp .gt 25, 3) := by decide +kernel
theorem dX5_pinned_115 : decode cX5_pinned 115 = .ok (.iload 4, 2) := by decide +kernel
theorem dX5_pinned_117 : decode cX5_pinned 117 = .ok (.ifCond .ne 7, 3) := by decide +kernel
theorem dX5_pinned_120 : decode cX5_pinned 120 = .ok (.iconst 1, 1) := by decide +kernel
theorem dX5_pinned_121 : decode cX5_pinned 121 = .ok (.goto 15, 3) := by decide +kernel
theorem dX5_pinned_124 : decode cX5_pinned 124 = .ok (.iload 4, 2) := by decide +kernel
theorem dX5_pinned_126 : decode cX5_pinned 126 = .ok (.iconst 1, 1) := by decide +kernel
theorem dX5_pinned_127 : decode cX5_pinned 127 = .ok (.if_icmp .ne 8, 3) := by decide +kernel
theorem dX5_pinned_130 : decode cX5_pinned 130 = .ok (.iload 7, 2) := by decide +kernel
theorem dX5_pinned_132 : decode cX5_pinned 132 = .ok (.goto 4, 3) := by decide +kernel
theorem dX5_pinned_135 : decode cX5_pinned 135 = .ok (.iconst (-1), 1) := by decide +kernel
theorem dX5_pinned_136 : decode cX5_pinned 136 = .ok (.ireturn, 1) := by decide +kernel
theorem dX5_pinned_137 : decode cX5_pinned 137 = .ok (.iinc 7 1, 3) := by decide +kernel
theorem dX5_pinned_140 : decode cX5_pinned 140 = .ok (.goto (-57), 3) := by decide +kernel
theorem dX5_pinned_143 : decode cX5_pinned 143 = .ok (.iconst 0, 1) := by decide +kernel
theorem dX5_pinned_144 : decode cX5_pinned 144 = .ok (.istore 7, 2) := by decide +kernel
theorem dX5_pinned_146 : decode cX5_pinned 146 = .ok (.iload 7, 2) := by decide +kernel
theorem dX5_pinned_148 : decode cX5_pinned 148 = .ok (.bipush 48, 2) := by decide +kernel
theorem dX5_pinned_150 : decode cX5_pinned 150 = .ok (.if_icmp .ge 92, 3) := by decide +kernel
theorem dX5_pinned_153 : decode cX5_pinned 153 = .ok (.iload 7, 2) := by decide +kernel
theorem dX5_pinned_155 : decode cX5_pinned 155 = .ok (.iconst 1, 1) := by decide +kernel
theorem dX5_pinned_156 : decode cX5_pinned 156 = .ok (.iadd, 1) := by decide +kernel
theorem dX5_pinned_157 : decode cX5_pinned 157 = .ok (.istore 8, 2) := by decide +kernel
theorem dX5_pinned_159 : decode cX5_pinned 159 = .ok (.iload 8, 2) := by decide +kernel
theorem dX5_pinned_161 : decode cX5_pinned 161 = .ok (.bipush 48, 2) := by decide +kernel
theorem dX5_pinned_163 : decode cX5_pinned 163 = .ok (.if_icmp .ge 73, 3) := by decide +kernel
theorem dX5_pinned_166 : decode cX5_pinned 166 = .ok (.lload 5, 2) := by decide +kernel
theorem dX5_pinned_168 : decode cX5_pinned 168 = .ok (.iload 7, 2) := by decide +kernel
theorem dX5_pinned_170 : decode cX5_pinned 170 = .ok (.invokestatic 139, 3) := by decide +kernel
theorem dX5_pinned_173 : decode cX5_pinned 173 = .ok (.ifCond .eq 57, 3) := by decide +kernel
theorem dX5_pinned_176 : decode cX5_pinned 176 = .ok (.lload 5, 2) := by decide +kernel
theorem dX5_pinned_178 : decode cX5_pinned 178 = .ok (.iload 8, 2) := by decide +kernel
theorem dX5_pinned_180 : decode cX5_pinned 180 = .ok (.invokestatic 139, 3) := by decide +kernel
theorem dX5_pinned_183 : decode cX5_pinned 183 = .ok (.ifCond .eq 47, 3) := by decide +kernel
theorem dX5_pinned_186 : decode cX5_pinned 186 = .ok (.aload_n 0, 1) := by decide +kernel
theorem dX5_pinned_187 : decode cX5_pinned 187 = .ok (.iload_n 1, 1) := by decide +kernel
theorem dX5_pinned_188 : decode cX5_pinned 188 = .ok (.iload_n 2, 1) := by decide +kernel
theorem dX5_pinned_189 : decode cX5_pinned 189 = .ok (.iload 7, 2) := by decide +kernel
theorem dX5_pinned_191 : decode cX5_pinned 191 = .ok (.invokestatic 143, 3) := by decide +kernel
theorem dX5_pinned_194 : decode cX5_pinned 194 = .ok (.iload 8, 2) := by decide +kernel
theorem dX5_pinned_196 : decode cX5_pinned 196 = .ok (.invokestatic 143, 3) := by decide +kernel
theorem dX5_pinned_199 : decode cX5_pinned 199 = .ok (.lor, 1) := by decide +kernel
theorem dX5_pinned_200 : decode cX5_pinned 200 = .ok (.invokevirtual 209, 3) := by decide +kernel
theorem dX5_pinned_203 : decode cX5_pinned 203 = .ok (.iload_n 3, 1) := by decide +kernel
theorem dX5_pinned_204 : decode cX5_pinned 204 = .ok (.if_icmp .gt 26, 3) := by decide +kernel
theorem dX5_pinned_207 : decode cX5_pinned 207 = .ok (.iload 4, 2) := by decide +kernel
theorem dX5_pinned_209 : decode cX5_pinned 209 = .ok (.ifCond .ne 7, 3) := by decide +kernel
theorem dX5_pinned_212 : decode cX5_pinned 212 = .ok (.iconst 2, 1) := by decide +kernel
theorem dX5_pinned_213 : decode cX5_pinned 213 = .ok (.goto 16, 3) := by decide +kernel
theorem dX5_pinned_216 : decode cX5_pinned 216 = .ok (.iload 4, 2) := by decide +kernel
theorem dX5_pinned_218 : decode cX5_pinned 218 = .ok (.iconst 1, 1) := by decide +kernel
theorem dX5_pinned_219 : decode cX5_pinned 219 = .ok (.if_icmp .ne 8, 3) := by decide +kernel
theorem dX5_pinned_222 : decode cX5_pinned 222 = .ok (.iload 7, 2) := by decide +kernel
theorem dX5_pinned_224 : decode cX5_pinned 224 = .ok (.goto 5, 3) := by decide +kernel
theorem dX5_pinned_227 : decode cX5_pinned 227 = .ok (.iload 8, 2) := by decide +kernel
theorem dX5_pinned_229 : decode cX5_pinned 229 = .ok (.ireturn, 1) := by decide +kernel
theorem dX5_pinned_230 : decode cX5_pinned 230 = .ok (.iinc 8 1, 3) := by decide +kernel
theorem dX5_pinned_233 : decode cX5_pinned 233 = .ok (.goto (-74), 3) := by decide +kernel
theorem dX5_pinned_236 : decode cX5_pinned 236 = .ok (.iinc 7 1, 3) := by decide +kernel
theorem dX5_pinned_239 : decode cX5_pinned 239 = .ok (.goto (-93), 3) := by decide +kernel
theorem dX5_pinned_242 : decode cX5_pinned 242 = .ok (.iconst (-1), 1) := by decide +kernel
theorem dX5_pinned_243 : decode cX5_pinned 243 = .ok (.ireturn, 1) := by decide +kernel
theorem dX5_mending_0 : decode cX5_mending 0 = .ok (.iload_n 1, 1) := by decide +kernel
theorem dX5_mending_1 : decode cX5_mending 1 = .ok (.invokestatic 101, 3) := by decide +kernel
theorem dX5_mending_4 : decode cX5_mending 4 = .ok (.ifCond .ne 6, 3) := by decide +kernel
theorem dX5_mending_7 : decode cX5_mending 7 = .ok (.bipush (-5), 2) := by decide +kernel
theorem dX5_mending_9 : decode cX5_mending 9 = .ok (.ireturn, 1) := by decide +kernel
theorem dX5_mending_10 : decode cX5_mending 10 = .ok (.iload_n 2, 1) := by decide +kernel
theorem dX5_mending_11 : decode cX5_mending 11 = .ok (.invokestatic 104, 3) := by decide +kernel
theorem dX5_mending_14 : decode cX5_mending 14 = .ok (.ifCond .eq 12, 3) := by decide +kernel
theorem dX5_mending_17 : decode cX5_mending 17 = .ok (.iload_n 3, 1) := by decide +kernel
theorem dX5_mending_18 : decode cX5_mending 18 = .ok (.iconst 0, 1) := by decide +kernel
theorem dX5_mending_19 : decode cX5_mending 19 = .ok (.iconst 1, 1) := by decide +kernel
theorem dX5_mending_20 : decode cX5_mending 20 = .ok (.invokestatic 97, 3) := by decide +kernel
theorem dX5_mending_23 : decode cX5_mending 23 = .ok (.ifCond .ne 6, 3) := by decide +kernel
theorem dX5_mending_26 : decode cX5_mending 26 = .ok (.bipush (-7), 2) := by decide +kernel
theorem dX5_mending_28 : decode cX5_mending 28 = .ok (.ireturn, 1) := by decide +kernel
theorem dX5_mending_29 : decode cX5_mending 29 = .ok (.aload_n 0, 1) := by decide +kernel
theorem dX5_mending_30 : decode cX5_mending 30 = .ok (.iload_n 1, 1) := by decide +kernel
theorem dX5_mending_31 : decode cX5_mending 31 = .ok (.iload_n 2, 1) := by decide +kernel
theorem dX5_mending_32 : decode cX5_mending 32 = .ok (.invokevirtual 163, 3) := by decide +kernel
theorem dX5_mending_35 : decode cX5_mending 35 = .ok (.pop, 1) := by decide +kernel
theorem dX5_mending_36 : decode cX5_mending 36 = .ok (.aload_n 0, 1) := by decide +kernel
theorem dX5_mending_37 : decode cX5_mending 37 = .ok (.getfield 35, 3) := by decide +kernel
theorem dX5_mending_40 : decode cX5_mending 40 = .ok (.getfield 167, 3) := by decide +kernel
theorem dX5_mending_43 : decode cX5_mending 43 = .ok (.lconst 0, 1) := by decide +kernel
theorem dX5_mending_44 : decode cX5_mending 44 = .ok (.lcmp, 1) := by decide +kernel
theorem dX5_mending_45 : decode cX5_mending 45 = .ok (.ifCond .ne 13, 3) := by decide +kernel
theorem dX5_mending_48 : decode cX5_mending 48 = .ok (.iload_n 3, 1) := by decide +kernel
theorem dX5_mending_49 : decode cX5_mending 49 = .ok (.ifCond .ne 7, 3) := by decide +kernel
theorem dX5_mending_52 : decode cX5_mending 52 = .ok (.iconst (-1), 1) := by decide +kernel
theorem dX5_mending_53 : decode cX5_mending 53 = .ok (.goto 4, 3) := by decide +kernel
theorem dX5_mending_56 : decode cX5_mending 56 = .ok (.iconst 0, 1) := by decide +kernel
theorem dX5_mending_57 : decode cX5_mending 57 = .ok (.ireturn, 1) := by decide +kernel
theorem dX5_mending_58 : decode cX5_mending 58 = .ok (.iconst 0, 1) := by decide +kernel
theorem dX5_mending_59 : decode cX5_mending 59 = .ok (.istore 4, 2) := by decide +kernel
theorem dX5_mending_61 : decode cX5_mending 61 = .ok (.aload_n 0, 1) := by decide +kernel
theorem dX5_mending_62 : decode cX5_mending 62 = .ok (.iconst 1, 1) := by decide +kernel
theorem dX5_mending_63 : decode cX5_mending 63 = .ok (.invokevirtual 173, 3) := by decide +kernel
theorem dX5_mending_66 : decode cX5_mending 66 = .ok (.istore 5, 2) := by decide +kernel
theorem dX5_mending_68 : decode cX5_mending 68 = .ok (.bipush 24, 2) := by decide +kernel
theorem dX5_mending_70 : decode cX5_mending 70 = .ok (.bipush 8, 2) := by decide +kernel
theorem dX5_mending_72 : decode cX5_mending 72 = .ok (.aload_n 0, 1) := by decide +kernel
theorem dX5_mending_73 : decode cX5_mending 73 = .ok (.invokevirtual 170, 3) := by decide +kernel
theorem dX5_mending_76 : decode cX5_mending 76 = .ok (.isub, 1) := by decide +kernel
theorem dX5_mending_77 : decode cX5_mending 77 = .ok (.imul, 1) := by decide +kernel
theorem dX5_mending_78 : decode cX5_mending 78 = .ok (.istore 6, 2) := by decide +kernel
theorem dX5_mending_80 : decode cX5_mending 80 = .ok (.iload 6, 2) := by decide +kernel
theorem dX5_mending_82 : decode cX5_mending 82 = .ok (.iload 5, 2) := by decide +kernel
theorem dX5_mending_84 : decode cX5_mending 84 = .ok (.if_icmp .ge 10, 3) := by decide +kernel
theorem dX5_mending_87 : decode cX5_mending 87 = .ok (.iconst 1, 1) := by decide +kernel
theorem dX5_mending_88 : decode cX5_mending 88 = .ok (.istore 4, 2) := by decide +kernel
theorem dX5_mending_90 : decode cX5_mending 90 = .ok (.iload 6, 2) := by decide +kernel
theorem dX5_mending_92 : decode cX5_mending 92 = .ok (.istore 5, 2) := by decide +kernel
theorem dX5_mending_94 : decode cX5_mending 94 = .ok (.bipush 50, 2) := by decide +kernel
theorem dX5_mending_96 : decode cX5_mending 96 = .ok (.aload_n 0, 1) := by decide +kernel
theorem dX5_mending_97 : decode cX5_mending 97 = .ok (.getfield 35, 3) := by decide +kernel
theorem dX5_mending_100 : decode cX5_mending 100 = .ok (.getfield 167, 3) := by decide +kernel
theorem dX5_mending_103 : decode cX5_mending 103 = .ok (.invokestatic 74, 3) := by decide +kernel
theorem dX5_mending_106 : decode cX5_mending 106 = .ok (.iadd, 1) := by decide +kernel
theorem dX5_mending_107 : decode cX5_mending 107 = .ok (.istore 7, 2) := by decide +kernel
theorem dX5_mending_109 : decode cX5_mending 109 = .ok (.iload 7, 2) := by decide +kernel
theorem dX5_mending_111 : decode cX5_mending 111 = .ok (.iload 5, 2) := by decide +kernel
theorem dX5_mending_113 : decode cX5_mending 113 = .ok (.if_icmp .ge 10, 3) := by decide +kernel
theorem dX5_mending_116 : decode cX5_mending 116 = .ok (.iconst 2, 1) := by decide +kernel
theorem dX5_mending_117 : decode cX5_mending 117 = .ok (.istore 4, 2) := by decide +kernel
theorem dX5_mending_119 : decode cX5_mending 119 = .ok (.iload 7, 2) := by decide +kernel
theorem dX5_mending_121 : decode cX5_mending 121 = .ok (.istore 5, 2) := by decide +kernel
theorem dX5_mending_123 : decode cX5_mending 123 = .ok (.iload_n 3, 1) := by decide +kernel
theorem dX5_mending_124 : decode cX5_mending 124 = .ok (.ifCond .ne 8, 3) := by decide +kernel
theorem dX5_mending_127 : decode cX5_mending 127 = .ok (.iload 4, 2) := by decide +kernel
theorem dX5_mending_129 : decode cX5_mending 129 = .ok (.goto 5, 3) := by decide +kernel
theorem dX5_mending_132 : decode cX5_mending 132 = .ok (.iload 5, 2) := by decide +kernel
theorem dX5_mending_134 : decode cX5_mending 134 = .ok (.ireturn, 1) := by decide +kernel
theorem dX5_mend_0 : decode cX5_mend 0 = .ok (.iload_n 1, 1) := by decide +kernel
theorem dX5_mend_1 : decode cX5_mend 1 = .ok (.invokestatic 101, 3) := by decide +kernel
theorem dX5_mend_4 : decode cX5_mend 4 = .ok (.ifCond .ne 6, 3) := by decide +kernel
theorem dX5_mend_7 : decode cX5_mend 7 = .ok (.bipush (-5), 2) := by decide +kernel
theorem dX5_mend_9 : decode cX5_mend 9 = .ok (.ireturn, 1) := by decide +kernel
theorem dX5_mend_10 : decode cX5_mend 10 = .ok (.iload_n 2, 1) := by decide +kernel
theorem dX5_mend_11 : decode cX5_mend 11 = .ok (.invokestatic 104, 3) := by decide +kernel
theorem dX5_mend_14 : decode cX5_mend 14 = .ok (.ifCond .ne 6, 3) := by decide +kernel
theorem dX5_mend_17 : decode cX5_mend 17 = .ok (.bipush (-7), 2) := by decide +kernel
theorem dX5_mend_19 : decode cX5_mend 19 = .ok (.ireturn, 1) := by decide +kernel
theorem dX5_mend_20 : decode cX5_mend 20 = .ok (.aload_n 0, 1) := by decide +kernel
theorem dX5_mend_21 : decode cX5_mend 21 = .ok (.iload_n 1, 1) := by decide +kernel
theorem dX5_mend_22 : decode cX5_mend 22 = .ok (.iload_n 2, 1) := by decide +kernel
theorem dX5_mend_23 : decode cX5_mend 23 = .ok (.invokevirtual 163, 3) := by decide +kernel
theorem dX5_mend_26 : decode cX5_mend 26 = .ok (.pop, 1) := by decide +kernel
theorem dX5_mend_27 : decode cX5_mend 27 = .ok (.aload_n 0, 1) := by decide +kernel
theorem dX5_mend_28 : decode cX5_mend 28 = .ok (.getfield 35, 3) := by decide +kernel
theorem dX5_mend_31 : decode cX5_mend 31 = .ok (.getfield 167, 3) := by decide +kernel
theorem dX5_mend_34 : decode cX5_mend 34 = .ok (.aload_n 0, 1) := by decide +kernel
theorem dX5_mend_35 : decode cX5_mend 35 = .ok (.getfield 10, 3) := by decide +kernel
theorem dX5_mend_38 : decode cX5_mend 38 = .ok (.getfield 80, 3) := by decide +kernel
theorem dX5_mend_41 : decode cX5_mend 41 = .ok (.ldc2_w 147, 3) := by decide +kernel
theorem dX5_mend_44 : decode cX5_mend 44 = .ok (.lxor, 1) := by decide +kernel
theorem dX5_mend_45 : decode cX5_mend 45 = .ok (.land, 1) := by decide +kernel
theorem dX5_mend_46 : decode cX5_mend 46 = .ok (.invokestatic 74, 3) := by decide +kernel
theorem dX5_mend_49 : decode cX5_mend 49 = .ok (.istore_n 3, 1) := by decide +kernel
theorem dX5_mend_50 : decode cX5_mend 50 = .ok (.aload_n 0, 1) := by decide +kernel
theorem dX5_mend_51 : decode cX5_mend 51 = .ok (.getfield 10, 3) := by decide +kernel
theorem dX5_mend_54 : decode cX5_mend 54 = .ok (.dup, 1) := by decide +kernel
theorem dX5_mend_55 : decode cX5_mend 55 = .ok (.getfield 80, 3) := by decide +kernel
theorem dX5_mend_58 : decode cX5_mend 58 = .ok (.aload_n 0, 1) := by decide +kernel
theorem dX5_mend_59 : decode cX5_mend 59 = .ok (.getfield 35, 3) := by decide +kernel
theorem dX5_mend_62 : decode cX5_mend 62 = .ok (.getfield 167, 3) := by decide +kernel
theorem dX5_mend_65 : decode cX5_mend 65 = .ok (.lor, 1) := by decide +kernel
theorem dX5_mend_66 : decode cX5_mend 66 = .ok (.putfield 80, 3) := by decide +kernel
theorem dX5_mend_69 : decode cX5_mend 69 = .ok (.iload_n 3, 1) := by decide +kernel
theorem dX5_mend_70 : decode cX5_mend 70 = .ok (.ireturn, 1) := by decide +kernel
theorem dX5_block_0 : decode cX5_block 0 = .ok (.aload_n 0, 1) := by decide +kernel
theorem dX5_block_1 : decode cX5_block 1 = .ok (.getfield 10, 3) := by decide +kernel
theorem dX5_block_4 : decode cX5_block 4 = .ok (.getfield 80, 3) := by decide +kernel
theorem dX5_block_7 : decode cX5_block 7 = .ok (.invokestatic 74, 3) := by decide +kernel
theorem dX5_block_10 : decode cX5_block 10 = .ok (.istore_n 1, 1) := by decide +kernel
theorem dX5_block_11 : decode cX5_block 11 = .ok (.aload_n 0, 1) := by decide +kernel
theorem dX5_block_12 : decode cX5_block 12 = .ok (.getfield 10, 3) := by decide +kernel
theorem dX5_block_15 : decode cX5_block 15 = .ok (.lconst 0, 1) := by decide +kernel
theorem dX5_block_16 : decode cX5_block 16 = .ok (.putfield 80, 3) := by decide +kernel
theorem dX5_block_19 : decode cX5_block 19 = .ok (.iload_n 1, 1) := by decide +kernel
theorem dX5_block_20 : decode cX5_block 20 = .ok (.ireturn, 1) := by decide +kernel
theorem dX5_seen_0 : decode cX5_seen 0 = .ok (.lconst 0, 1) := by decide +kernel
theorem dX5_seen_1 : decode cX5_seen 1 = .ok (.lstore_n 1, 1) := by decide +kernel
theorem dX5_seen_2 : decode cX5_seen 2 = .ok (.iconst 0, 1) := by decide +kernel
theorem dX5_seen_3 : decode cX5_seen 3 = .ok (.istore_n 3, 1) := by decide +kernel
theorem dX5_seen_4 : decode cX5_seen 4 = .ok (.iload_n 3, 1) := by decide +kernel
theorem dX5_seen_5 : decode cX5_seen 5 = .ok (.bipush 48, 2) := by decide +kernel
theorem dX5_seen_7 : decode cX5_seen 7 = .ok (.if_icmp .ge 38, 3) := by decide +kernel
theorem dX5_seen_10 : decode cX5_seen 10 = .ok (.aload_n 0, 1) := by decide +kernel
theorem dX5_seen_11 : decode cX5_seen 11 = .ok (.getfield 10, 3) := by decide +kernel
theorem dX5_seen_14 : decode cX5_seen 14 = .ok (.getfield 80, 3) := by decide +kernel
theorem dX5_seen_17 : decode cX5_seen 17 = .ok (.iload_n 3, 1) := by decide +kernel
theorem dX5_seen_18 : decode cX5_seen 18 = .ok (.invokestatic 139, 3) := by decide +kernel
theorem dX5_seen_21 : decode cX5_seen 21 = .ok (.ifCond .eq 18, 3) := by decide +kernel
theorem dX5_seen_24 : decode cX5_seen 24 = .ok (.aload_n 0, 1) := by decide +kernel
theorem dX5_seen_25 : decode cX5_seen 25 = .ok (.iload_n 3, 1) := by decide +kernel
theorem dX5_seen_26 : decode cX5_seen 26 = .ok (.invokevirtual 213, 3) := by decide +kernel
theorem dX5_seen_29 : decode cX5_seen 29 = .ok (.ifCond .eq 10, 3) := by decide +kernel
theorem dX5_seen_32 : decode cX5_seen 32 = .ok (.lload_n 1, 1) := by decide +kernel
theorem dX5_seen_33 : decode cX5_seen 33 = .ok (.iload_n 3, 1) := by decide +kernel
theorem dX5_seen_34 : decode cX5_seen 34 = .ok (.invokestatic 143, 3) := by decide +kernel
theorem dX5_seen_37 : decode cX5_seen 37 = .ok (.lor, 1) := by decide +kernel
theorem dX5_seen_38 : decode cX5_seen 38 = .ok (.lstore_n 1, 1) := by decide +kernel
theorem dX5_seen_39 : decode cX5_seen 39 = .ok (.iinc 3 1, 3) := by decide +kernel
theorem dX5_seen_42 : decode cX5_seen 42 = .ok (.goto (-38), 3) := by decide +kernel
theorem dX5_seen_45 : decode cX5_seen 45 = .ok (.lload_n 1, 1) := by decide +kernel
theorem dX5_seen_46 : decode cX5_seen 46 = .ok (.lreturn, 1) := by decide +kernel
theorem dX5_slack_0 : decode cX5_slack 0 = .ok (.iload_n 1, 1) := by decide +kernel
theorem dX5_slack_1 : decode cX5_slack 1 = .ok (.invokestatic 101, 3) := by decide +kernel
theorem dX5_slack_4 : decode cX5_slack 4 = .ok (.ifCond .ne 6, 3) := by decide +kernel
theorem dX5_slack_7 : decode cX5_slack 7 = .ok (.bipush (-5), 2) := by decide +kernel
theorem dX5_slack_9 : decode cX5_slack 9 = .ok (.ireturn, 1) := by decide +kernel
theorem dX5_slack_10 : decode cX5_slack 10 = .ok (.iload_n 2, 1) := by decide +kernel
theorem dX5_slack_11 : decode cX5_slack 11 = .ok (.iconst 0, 1) := by decide +kernel
theorem dX5_slack_12 : decode cX5_slack 12 = .ok (.bipush 99, 2) := by decide +kernel
theorem dX5_slack_14 : decode cX5_slack 14 = .ok (.invokestatic 97, 3) := by decide +kernel
theorem dX5_slack_17 : decode cX5_slack 17 = .ok (.ifCond .ne 6, 3) := by decide +kernel
theorem dX5_slack_20 : decode cX5_slack 20 = .ok (.bipush (-7), 2) := by decide +kernel
theorem dX5_slack_22 : decode cX5_slack 22 = .ok (.ireturn, 1) := by decide +kernel
theorem dX5_slack_23 : decode cX5_slack 23 = .ok (.iload_n 2, 1) := by decide +kernel
theorem dX5_slack_24 : decode cX5_slack 24 = .ok (.ifCond .ne 5, 3) := by decide +kernel
theorem dX5_slack_27 : decode cX5_slack 27 = .ok (.iconst 0, 1) := by decide +kernel
theorem dX5_slack_28 : decode cX5_slack 28 = .ok (.ireturn, 1) := by decide +kernel
theorem dX5_slack_29 : decode cX5_slack 29 = .ok (.iload_n 1, 1) := by decide +kernel
theorem dX5_slack_30 : decode cX5_slack 30 = .ok (.iload_n 1, 1) := by decide +kernel
theorem dX5_slack_31 : decode cX5_slack 31 = .ok (.bipush 6, 2) := by decide +kernel
theorem dX5_slack_33 : decode cX5_slack 33 = .ok (.irem, 1) := by decide +kernel
theorem dX5_slack_34 : decode cX5_slack 34 = .ok (.isub, 1) := by decide +kernel
theorem dX5_slack_35 : decode cX5_slack 35 = .ok (.istore_n 3, 1) := by decide +kernel
theorem dX5_slack_36 : decode cX5_slack 36 = .ok (.iconst 0, 1) := by decide +kernel
theorem dX5_slack_37 : decode cX5_slack 37 = .ok (.istore 4, 2) := by decide +kernel
theorem dX5_slack_39 : decode cX5_slack 39 = .ok (.iconst 0, 1) := by decide +kernel
theorem dX5_slack_40 : decode cX5_slack 40 = .ok (.istore 5, 2) := by decide +kernel
theorem dX5_slack_42 : decode cX5_slack 42 = .ok (.iconst 1, 1) := by decide +kernel
theorem dX5_slack_43 : decode cX5_slack 43 = .ok (.istore 6, 2) := by decide +kernel
theorem dX5_slack_45 : decode cX5_slack 45 = .ok (.iload 6, 2) := by decide +kernel
theorem dX5_slack_47 : decode cX5_slack 47 = .ok (.bipush 6, 2) := by decide +kernel
theorem dX5_slack_49 : decode cX5_slack 49 = .ok (.if_icmp .ge 75, 3) := by decide +kernel
theorem dX5_slack_52 : decode cX5_slack 52 = .ok (.iconst (-1), 1) := by decide +kernel
theorem dX5_slack_53 : decode cX5_slack 53 = .ok (.istore 7, 2) := by decide +kernel
theorem dX5_slack_55 : decode cX5_slack 55 = .ok (.iload 7, 2) := by decide +kernel
theorem dX5_slack_57 : decode cX5_slack 57 = .ok (.iconst 1, 1) := by decide +kernel
theorem dX5_slack_58 : decode cX5_slack 58 = .ok (.if_icmp .gt 60, 3) := by decide +kernel
theorem dX5_slack_61 : decode cX5_slack 61 = .ok (.iload_n 1, 1) := by decide +kernel
theorem dX5_slack_62 : decode cX5_slack 62 = .ok (.iload 7, 2) := by decide +kernel
theorem dX5_slack_64 : decode cX5_slack 64 = .ok (.iload 6, 2) := by decide +kernel
theorem dX5_slack_66 : decode cX5_slack 66 = .ok (.imul, 1) := by decide +kernel
theorem dX5_slack_67 : decode cX5_slack 67 = .ok (.iadd, 1) := by decide +kernel
theorem dX5_slack_68 : decode cX5_slack 68 = .ok (.istore 8, 2) := by decide +kernel
theorem dX5_slack_70 : decode cX5_slack 70 = .ok (.iload 8, 2) := by decide +kernel
theorem dX5_slack_72 : decode cX5_slack 72 = .ok (.iload_n 3, 1) := by decide +kernel
theorem dX5_slack_73 : decode cX5_slack 73 = .ok (.iload_n 3, 1) := by decide +kernel
theorem dX5_slack_74 : decode cX5_slack 74 = .ok (.bipush 6, 2) := by decide +kernel
theorem dX5_slack_76 : decode cX5_slack 76 = .ok (.iadd, 1) := by decide +kernel
theorem dX5_slack_77 : decode cX5_slack 77 = .ok (.iconst 1, 1) := by decide +kernel
theorem dX5_slack_78 : decode cX5_slack 78 = .ok (.isub, 1) := by decide +kernel
theorem dX5_slack_79 : decode cX5_slack 79 = .ok (.invokestatic 97, 3) := by decide +kernel
theorem dX5_slack_82 : decode cX5_slack 82 = .ok (.ifCond .eq 30, 3) := by decide +kernel
theorem dX5_slack_85 : decode cX5_slack 85 = .ok (.iinc 5 1, 3) := by decide +kernel
theorem dX5_slack_88 : decode cX5_slack 88 = .ok (.iload 4, 2) := by decide +kernel
theorem dX5_slack_90 : decode cX5_slack 90 = .ok (.aload_n 0, 1) := by decide +kernel
theorem dX5_slack_91 : decode cX5_slack 91 = .ok (.getfield 10, 3) := by decide +kernel
theorem dX5_slack_94 : decode cX5_slack 94 = .ok (.getfield 129, 3) := by decide +kernel
theorem dX5_slack_97 : decode cX5_slack 97 = .ok (.iload 8, 2) := by decide +kernel
theorem dX5_slack_99 : decode cX5_slack 99 = .ok (.iaload, 1) := by decide +kernel
theorem dX5_slack_100 : decode cX5_slack 100 = .ok (.iadd, 1) := by decide +kernel
theorem dX5_slack_101 : decode cX5_slack 101 = .ok (.istore 4, 2) := by decide +kernel
theorem dX5_slack_103 : decode cX5_slack 103 = .ok (.iload 4, 2) := by decide +kernel
theorem dX5_slack_105 : decode cX5_slack 105 = .ok (.iload_n 2, 1) := by decide +kernel
theorem dX5_slack_106 : decode cX5_slack 106 = .ok (.if_icmp .lt 6, 3) := by decide +kernel
theorem dX5_slack_109 : decode cX5_slack 109 = .ok (.iload 5, 2) := by decide +kernel
theorem dX5_slack_111 : decode cX5_slack 111 = .ok (.ireturn, 1) := by decide +kernel
theorem dX5_slack_112 : decode cX5_slack 112 = .ok (.iinc 7 2, 3) := by decide +kernel
theorem dX5_slack_115 : decode cX5_slack 115 = .ok (.goto (-60), 3) := by decide +kernel
theorem dX5_slack_118 : decode cX5_slack 118 = .ok (.iinc 6 1, 3) := by decide +kernel
theorem dX5_slack_121 : decode cX5_slack 121 = .ok (.goto (-76), 3) := by decide +kernel
theorem dX5_slack_124 : decode cX5_slack 124 = .ok (.iconst (-1), 1) := by decide +kernel
theorem dX5_slack_125 : decode cX5_slack 125 = .ok (.ireturn, 1) := by decide +kernel
theorem dX5_judge_0 : decode cX5_judge 0 = .ok (.aload_n 0, 1) := by decide +kernel
theorem dX5_judge_1 : decode cX5_judge 1 = .ok (.iload_n 1, 1) := by decide +kernel
theorem dX5_judge_2 : decode cX5_judge 2 = .ok (.iload_n 2, 1) := by decide +kernel
theorem dX5_judge_3 : decode cX5_judge 3 = .ok (.invokevirtual 216, 3) := by decide +kernel
theorem dX5_judge_6 : decode cX5_judge 6 = .ok (.istore 4, 2) := by decide +kernel
theorem dX5_judge_8 : decode cX5_judge 8 = .ok (.iload 4, 2) := by decide +kernel
theorem dX5_judge_10 : decode cX5_judge 10 = .ok (.ifCond .eq 6, 3) := by decide +kernel
theorem dX5_judge_13 : decode cX5_judge 13 = .ok (.iload 4, 2) := by decide +kernel
theorem dX5_judge_15 : decode cX5_judge 15 = .ok (.ireturn, 1) := by decide +kernel
theorem dX5_judge_16 : decode cX5_judge 16 = .ok (.iload_n 3, 1) := by decide +kernel
theorem dX5_judge_17 : decode cX5_judge 17 = .ok (.invokestatic 104, 3) := by decide +kernel
theorem dX5_judge_20 : decode cX5_judge 20 = .ok (.ifCond .ne 6, 3) := by decide +kernel
theorem dX5_judge_23 : decode cX5_judge 23 = .ok (.bipush (-7), 2) := by decide +kernel
theorem dX5_judge_25 : decode cX5_judge 25 = .ok (.ireturn, 1) := by decide +kernel
theorem dX5_judge_26 : decode cX5_judge 26 = .ok (.aload_n 0, 1) := by decide +kernel
theorem dX5_judge_27 : decode cX5_judge 27 = .ok (.iload_n 2, 1) := by decide +kernel
theorem dX5_judge_28 : decode cX5_judge 28 = .ok (.iload_n 3, 1) := by decide +kernel
theorem dX5_judge_29 : decode cX5_judge 29 = .ok (.invokevirtual 163, 3) := by decide +kernel
theorem dX5_judge_32 : decode cX5_judge 32 = .ok (.pop, 1) := by decide +kernel
theorem dX5_judge_33 : decode cX5_judge 33 = .ok (.aload_n 0, 1) := by decide +kernel
theorem dX5_judge_34 : decode cX5_judge 34 = .ok (.getfield 41, 3) := by decide +kernel
theorem dX5_judge_37 : decode cX5_judge 37 = .ok (.iload_n 1, 1) := by decide +kernel
theorem dX5_judge_38 : decode cX5_judge 38 = .ok (.aaload, 1) := by decide +kernel
theorem dX5_judge_39 : decode cX5_judge 39 = .ok (.aload_n 0, 1) := by decide +kernel
theorem dX5_judge_40 : decode cX5_judge 40 = .ok (.getfield 35, 3) := by decide +kernel
theorem dX5_judge_43 : decode cX5_judge 43 = .ok (.getfield 167, 3) := by decide +kernel
theorem dX5_judge_46 : decode cX5_judge 46 = .ok (.invokevirtual 219, 3) := by decide +kernel
theorem dX5_judge_49 : decode cX5_judge 49 = .ok (.ireturn, 1) := by decide +kernel
theorem dX5_which_0 : decode cX5_which 0 = .ok (.aload_n 0, 1) := by decide +kernel
theorem dX5_which_1 : decode cX5_which 1 = .ok (.iload_n 1, 1) := by decide +kernel
theorem dX5_which_2 : decode cX5_which 2 = .ok (.bipush 48, 2) := by decide +kernel
theorem dX5_which_4 : decode cX5_which 4 = .ok (.invokevirtual 199, 3) := by decide +kernel
theorem dX5_which_7 : decode cX5_which 7 = .ok (.ifCond .ne 10, 3) := by decide +kernel
theorem dX5_which_10 : decode cX5_which 10 = .ok (.iload_n 2, 1) := by decide +kernel
theorem dX5_which_11 : decode cX5_which 11 = .ok (.invokestatic 104, 3) := by decide +kernel
theorem dX5_which_14 : decode cX5_which 14 = .ok (.ifCond .ne 7, 3) := by decide +kernel
theorem dX5_which_17 : decode cX5_which 17 = .ok (.ldc2_w 149, 3) := by decide +kernel
theorem dX5_which_20 : decode cX5_which 20 = .ok (.lreturn, 1) := by decide +kernel
theorem dX5_which_21 : decode cX5_which 21 = .ok (.lconst 0, 1) := by decide +kernel
theorem dX5_which_22 : decode cX5_which 22 = .ok (.lstore_n 3, 1) := by decide +kernel
theorem dX5_which_23 : decode cX5_which 23 = .ok (.iconst 0, 1) := by decide +kernel
theorem dX5_which_24 : decode cX5_which 24 = .ok (.istore 5, 2) := by decide +kernel
theorem dX5_which_26 : decode cX5_which 26 = .ok (.iload 5, 2) := by decide +kernel
theorem dX5_which_28 : decode cX5_which 28 = .ok (.bipush 48, 2) := by decide +kernel
theorem dX5_which_30 : decode cX5_which 30 = .ok (.if_icmp .ge 45, 3) := by decide +kernel
theorem dX5_which_33 : decode cX5_which 33 = .ok (.aload_n 0, 1) := by decide +kernel
theorem dX5_which_34 : decode cX5_which 34 = .ok (.iload 5, 2) := by decide +kernel
theorem dX5_which_36 : decode cX5_which 36 = .ok (.iload_n 2, 1) := by decide +kernel
theorem dX5_which_37 : decode cX5_which 37 = .ok (.invokevirtual 163, 3) := by decide +kernel
theorem dX5_which_40 : decode cX5_which 40 = .ok (.pop, 1) := by decide +kernel
theorem dX5_which_41 : decode cX5_which 41 = .ok (.aload_n 0, 1) := by decide +kernel
theorem dX5_which_42 : decode cX5_which 42 = .ok (.getfield 41, 3) := by decide +kernel
theorem dX5_which_45 : decode cX5_which 45 = .ok (.iload_n 1, 1) := by decide +kernel
theorem dX5_which_46 : decode cX5_which 46 = .ok (.aaload, 1) := by decide +kernel
theorem dX5_which_47 : decode cX5_which 47 = .ok (.aload_n 0, 1) := by decide +kernel
theorem dX5_which_48 : decode cX5_which 48 = .ok (.getfield 35, 3) := by decide +kernel
theorem dX5_which_51 : decode cX5_which 51 = .ok (.getfield 167, 3) := by decide +kernel
theorem dX5_which_54 : decode cX5_which 54 = .ok (.invokevirtual 219, 3) := by decide +kernel
theorem dX5_which_57 : decode cX5_which 57 = .ok (.iconst (-1), 1) := by decide +kernel
theorem dX5_which_58 : decode cX5_which 58 = .ok (.if_icmp .ne 11, 3) := by decide +kernel
theorem dX5_which_61 : decode cX5_which 61 = .ok (.lload_n 3, 1) := by decide +kernel
theorem dX5_which_62 : decode cX5_which 62 = .ok (.iload 5, 2) := by decide +kernel
theorem dX5_which_64 : decode cX5_which 64 = .ok (.invokestatic 143, 3) := by decide +kernel
theorem dX5_which_67 : decode cX5_which 67 = .ok (.lor, 1) := by decide +kernel
theorem dX5_which_68 : decode cX5_which 68 = .ok (.lstore_n 3, 1) := by decide +kernel
theorem dX5_which_69 : decode cX5_which 69 = .ok (.iinc 5 1, 3) := by decide +kernel
theorem dX5_which_72 : decode cX5_which 72 = .ok (.goto (-46), 3) := by decide +kernel
theorem dX5_which_75 : decode cX5_which 75 = .ok (.lload_n 3, 1) := by decide +kernel
theorem dX5_which_76 : decode cX5_which 76 = .ok (.lreturn, 1) := by decide +kernel
theorem dX5_span_0 : decode cX5_span 0 = .ok (.aload_n 0, 1) := by decide +kernel
theorem dX5_span_1 : decode cX5_span 1 = .ok (.iload_n 1, 1) := by decide +kernel
theorem dX5_span_2 : decode cX5_span 2 = .ok (.iload_n 2, 1) := by decide +kernel
theorem dX5_span_3 : decode cX5_span 3 = .ok (.invokevirtual 216, 3) := by decide +kernel
theorem dX5_span_6 : decode cX5_span 6 = .ok (.istore 4, 2) := by decide +kernel
theorem dX5_span_8 : decode cX5_span 8 = .ok (.iload 4, 2) := by decide +kernel
theorem dX5_span_10 : decode cX5_span 10 = .ok (.ifCond .eq 6, 3) := by decide +kernel
theorem dX5_span_13 : decode cX5_span 13 = .ok (.iload 4, 2) := by decide +kernel
theorem dX5_span_15 : decode cX5_span 15 = .ok (.ireturn, 1) := by decide +kernel
theorem dX5_span_16 : decode cX5_span 16 = .ok (.iload_n 3, 1) := by decide +kernel
theorem dX5_span_17 : decode cX5_span 17 = .ok (.iconst 0, 1) := by decide +kernel
theorem dX5_span_18 : decode cX5_span 18 = .ok (.iconst 1, 1) := by decide +kernel
theorem dX5_span_19 : decode cX5_span 19 = .ok (.invokestatic 97, 3) := by decide +kernel
theorem dX5_span_22 : decode cX5_span 22 = .ok (.ifCond .ne 6, 3) := by decide +kernel
theorem dX5_span_25 : decode cX5_span 25 = .ok (.bipush (-7), 2) := by decide +kernel
theorem dX5_span_27 : decode cX5_span 27 = .ok (.ireturn, 1) := by decide +kernel
theorem dX5_span_28 : decode cX5_span 28 = .ok (.iconst 0, 1) := by decide +kernel
theorem dX5_span_29 : decode cX5_span 29 = .ok (.istore 5, 2) := by decide +kernel
theorem dX5_span_31 : decode cX5_span 31 = .ok (.iload 5, 2) := by decide +kernel
theorem dX5_span_33 : decode cX5_span 33 = .ok (.bipush 99, 2) := by decide +kernel
theorem dX5_span_35 : decode cX5_span 35 = .ok (.if_icmp .gt 56, 3) := by decide +kernel
theorem dX5_span_38 : decode cX5_span 38 = .ok (.iload_n 3, 1) := by decide +kernel
theorem dX5_span_39 : decode cX5_span 39 = .ok (.ifCond .ne 8, 3) := by decide +kernel
theorem dX5_span_42 : decode cX5_span 42 = .ok (.iload 5, 2) := by decide +kernel
theorem dX5_span_44 : decode cX5_span 44 = .ok (.goto 8, 3) := by decide +kernel
theorem dX5_span_47 : decode cX5_span 47 = .ok (.bipush 99, 2) := by decide +kernel
theorem dX5_span_49 : decode cX5_span 49 = .ok (.iload 5, 2) := by decide +kernel
theorem dX5_span_51 : decode cX5_span 51 = .ok (.isub, 1) := by decide +kernel
theorem dX5_span_52 : decode cX5_span 52 = .ok (.istore 6, 2) := by decide +kernel
theorem dX5_span_54 : decode cX5_span 54 = .ok (.aload_n 0, 1) := by decide +kernel
theorem dX5_span_55 : decode cX5_span 55 = .ok (.iload_n 2, 1) := by decide +kernel
theorem dX5_span_56 : decode cX5_span 56 = .ok (.iload 6, 2) := by decide +kernel
theorem dX5_span_58 : decode cX5_span 58 = .ok (.invokevirtual 163, 3) := by decide +kernel
theorem dX5_span_61 : decode cX5_span 61 = .ok (.pop, 1) := by decide +kernel
theorem dX5_span_62 : decode cX5_span 62 = .ok (.aload_n 0, 1) := by decide +kernel
theorem dX5_span_63 : decode cX5_span 63 = .ok (.getfield 41, 3) := by decide +kernel
theorem dX5_span_66 : decode cX5_span 66 = .ok (.iload_n 1, 1) := by decide +kernel
theorem dX5_span_67 : decode cX5_span 67 = .ok (.aaload, 1) := by decide +kernel
theorem dX5_span_68 : decode cX5_span 68 = .ok (.aload_n 0, 1) := by decide +kernel
theorem dX5_span_69 : decode cX5_span 69 = .ok (.getfield 35, 3) := by decide +kernel
theorem dX5_span_72 : decode cX5_span 72 = .ok (.getfield 167, 3) := by decide +kernel
theorem dX5_span_75 : decode cX5_span 75 = .ok (.invokevirtual 219, 3) := by decide +kernel
theorem dX5_span_78 : decode cX5_span 78 = .ok (.iconst (-1), 1) := by decide +kernel
theorem dX5_span_79 : decode cX5_span 79 = .ok (.if_icmp .ne 6, 3) := by decide +kernel
theorem dX5_span_82 : decode cX5_span 82 = .ok (.iload 6, 2) := by decide +kernel
theorem dX5_span_84 : decode cX5_span 84 = .ok (.ireturn, 1) := by decide +kernel
theorem dX5_span_85 : decode cX5_span 85 = .ok (.iinc 5 1, 3) := by decide +kernel
theorem dX5_span_88 : decode cX5_span 88 = .ok (.goto (-57), 3) := by decide +kernel
theorem dX5_span_91 : decode cX5_span 91 = .ok (.iconst (-1), 1) := by decide +kernel
theorem dX5_span_92 : decode cX5_span 92 = .ok (.ireturn, 1) := by decide +kernel
theorem dX5_laws_0 : decode cX5_laws 0 = .ok (.aload_n 0, 1) := by decide +kernel
theorem dX5_laws_1 : decode cX5_laws 1 = .ok (.iload_n 1, 1) := by decide +kernel
theorem dX5_laws_2 : decode cX5_laws 2 = .ok (.iload_n 2, 1) := by decide +kernel
theorem dX5_laws_3 : decode cX5_laws 3 = .ok (.invokevirtual 216, 3) := by decide +kernel
theorem dX5_laws_6 : decode cX5_laws 6 = .ok (.istore 4, 2) := by decide +kernel
theorem dX5_laws_8 : decode cX5_laws 8 = .ok (.iload 4, 2) := by decide +kernel
theorem dX5_laws_10 : decode cX5_laws 10 = .ok (.ifCond .eq 6, 3) := by decide +kernel
theorem dX5_laws_13 : decode cX5_laws 13 = .ok (.iload 4, 2) := by decide +kernel
theorem dX5_laws_15 : decode cX5_laws 15 = .ok (.ireturn, 1) := by decide +kernel
theorem dX5_laws_16 : decode cX5_laws 16 = .ok (.iload_n 3, 1) := by decide +kernel
theorem dX5_laws_17 : decode cX5_laws 17 = .ok (.invokestatic 104, 3) := by decide +kernel
theorem dX5_laws_20 : decode cX5_laws 20 = .ok (.ifCond .ne 6, 3) := by decide +kernel
theorem dX5_laws_23 : decode cX5_laws 23 = .ok (.bipush (-7), 2) := by decide +kernel
theorem dX5_laws_25 : decode cX5_laws 25 = .ok (.ireturn, 1) := by decide +kernel
theorem dX5_laws_26 : decode cX5_laws 26 = .ok (.iconst 0, 1) := by decide +kernel
theorem dX5_laws_27 : decode cX5_laws 27 = .ok (.istore 5, 2) := by decide +kernel
theorem dX5_laws_29 : decode cX5_laws 29 = .ok (.iconst 0, 1) := by decide +kernel
theorem dX5_laws_30 : decode cX5_laws 30 = .ok (.istore 6, 2) := by decide +kernel
theorem dX5_laws_32 : decode cX5_laws 32 = .ok (.iload 6, 2) := by decide +kernel
theorem dX5_laws_34 : decode cX5_laws 34 = .ok (.aload_n 0, 1) := by decide +kernel
theorem dX5_laws_35 : decode cX5_laws 35 = .ok (.getfield 83, 3) := by decide +kernel
theorem dX5_laws_38 : decode cX5_laws 38 = .ok (.if_icmp .ge 70, 3) := by decide +kernel
theorem dX5_laws_41 : decode cX5_laws 41 = .ok (.iload 6, 2) := by decide +kernel
theorem dX5_laws_43 : decode cX5_laws 43 = .ok (.bipush 6, 2) := by decide +kernel
theorem dX5_laws_45 : decode cX5_laws 45 = .ok (.if_icmp .ge 63, 3) := by decide +kernel
theorem dX5_laws_48 : decode cX5_laws 48 = .ok (.aload_n 0, 1) := by decide +kernel
theorem dX5_laws_49 : decode cX5_laws 49 = .ok (.getfield 35, 3) := by decide +kernel
theorem dX5_laws_52 : decode cX5_laws 52 = .ok (.aload_n 0, 1) := by decide +kernel
theorem dX5_laws_53 : decode cX5_laws 53 = .ok (.getfield 10, 3) := by decide +kernel
theorem dX5_laws_56 : decode cX5_laws 56 = .ok (.aload_n 0, 1) := by decide +kernel
theorem dX5_laws_57 : decode cX5_laws 57 = .ok (.getfield 28, 3) := by decide +kernel
theorem dX5_laws_60 : decode cX5_laws 60 = .ok (.iload 6, 2) := by decide +kernel
theorem dX5_laws_62 : decode cX5_laws 62 = .ok (.aaload, 1) := by decide +kernel
theorem dX5_laws_63 : decode cX5_laws 63 = .ok (.iload_n 2, 1) := by decide +kernel
theorem dX5_laws_64 : decode cX5_laws 64 = .ok (.invokestatic 143, 3) := by decide +kernel
theorem dX5_laws_67 : decode cX5_laws 67 = .ok (.lconst 0, 1) := by decide +kernel
theorem dX5_laws_68 : decode cX5_laws 68 = .ok (.iload_n 3, 1) := by decide +kernel
theorem dX5_laws_69 : decode cX5_laws 69 = .ok (.invokevirtual 182, 3) := by decide +kernel
theorem dX5_laws_72 : decode cX5_laws 72 = .ok (.pop, 1) := by decide +kernel
theorem dX5_laws_73 : decode cX5_laws 73 = .ok (.aload_n 0, 1) := by decide +kernel
theorem dX5_laws_74 : decode cX5_laws 74 = .ok (.getfield 41, 3) := by decide +kernel
theorem dX5_laws_77 : decode cX5_laws 77 = .ok (.iload_n 1, 1) := by decide +kernel
theorem dX5_laws_78 : decode cX5_laws 78 = .ok (.aaload, 1) := by decide +kernel
theorem dX5_laws_79 : decode cX5_laws 79 = .ok (.aload_n 0, 1) := by decide +kernel
theorem dX5_laws_80 : decode cX5_laws 80 = .ok (.getfield 35, 3) := by decide +kernel
theorem dX5_laws_83 : decode cX5_laws 83 = .ok (.getfield 167, 3) := by decide +kernel
theorem dX5_laws_86 : decode cX5_laws 86 = .ok (.invokevirtual 219, 3) := by decide +kernel
theorem dX5_laws_89 : decode cX5_laws 89 = .ok (.iconst (-1), 1) := by decide +kernel
theorem dX5_laws_90 : decode cX5_laws 90 = .ok (.if_icmp .ne 12, 3) := by decide +kernel
theorem dX5_laws_93 : decode cX5_laws 93 = .ok (.iload 5, 2) := by decide +kernel
theorem dX5_laws_95 : decode cX5_laws 95 = .ok (.iconst 1, 1) := by decide +kernel
theorem dX5_laws_96 : decode cX5_laws 96 = .ok (.iload 6, 2) := by decide +kernel
theorem dX5_laws_98 : decode cX5_laws 98 = .ok (.ishl, 1) := by decide +kernel
theorem dX5_laws_99 : decode cX5_laws 99 = .ok (.ior, 1) := by decide +kernel
theorem dX5_laws_100 : decode cX5_laws 100 = .ok (.istore 5, 2) := by decide +kernel
theorem dX5_laws_102 : decode cX5_laws 102 = .ok (.iinc 6 1, 3) := by decide +kernel
theorem dX5_laws_105 : decode cX5_laws 105 = .ok (.goto (-73), 3) := by decide +kernel
theorem dX5_laws_108 : decode cX5_laws 108 = .ok (.iload 5, 2) := by decide +kernel
theorem dX5_laws_110 : decode cX5_laws 110 = .ok (.ireturn, 1) := by decide +kernel
theorem dX5_film_0 : decode cX5_film 0 = .ok (.iload_n 1, 1) := by decide +kernel
theorem dX5_film_1 : decode cX5_film 1 = .ok (.invokestatic 222, 3) := by decide +kernel
theorem dX5_film_4 : decode cX5_film 4 = .ok (.ifCond .ne 6, 3) := by decide +kernel
theorem dX5_film_7 : decode cX5_film 7 = .ok (.bipush (-2), 2) := by decide +kernel
theorem dX5_film_9 : decode cX5_film 9 = .ok (.ireturn, 1) := by decide +kernel
theorem dX5_film_10 : decode cX5_film 10 = .ok (.iload_n 2, 1) := by decide +kernel
theorem dX5_film_11 : decode cX5_film 11 = .ok (.invokestatic 101, 3) := by decide +kernel
theorem dX5_film_14 : decode cX5_film 14 = .ok (.ifCond .ne 6, 3) := by decide +kernel
theorem dX5_film_17 : decode cX5_film 17 = .ok (.bipush (-5), 2) := by decide +kernel
theorem dX5_film_19 : decode cX5_film 19 = .ok (.ireturn, 1) := by decide +kernel
theorem dX5_film_20 : decode cX5_film 20 = .ok (.iload_n 3, 1) := by decide +kernel
theorem dX5_film_21 : decode cX5_film 21 = .ok (.invokestatic 104, 3) := by decide +kernel
theorem dX5_film_24 : decode cX5_film 24 = .ok (.ifCond .ne 6, 3) := by decide +kernel
theorem dX5_film_27 : decode cX5_film 27 = .ok (.bipush (-7), 2) := by decide +kernel
theorem dX5_film_29 : decode cX5_film 29 = .ok (.ireturn, 1) := by decide +kernel
theorem dX5_film_30 : decode cX5_film 30 = .ok (.aload_n 0, 1) := by decide +kernel
theorem dX5_film_31 : decode cX5_film 31 = .ok (.iload_n 2, 1) := by decide +kernel
theorem dX5_film_32 : decode cX5_film 32 = .ok (.iload_n 3, 1) := by decide +kernel
theorem dX5_film_33 : decode cX5_film 33 = .ok (.invokevirtual 163, 3) := by decide +kernel
theorem dX5_film_36 : decode cX5_film 36 = .ok (.pop, 1) := by decide +kernel
theorem dX5_film_37 : decode cX5_film 37 = .ok (.aload_n 0, 1) := by decide +kernel
theorem dX5_film_38 : decode cX5_film 38 = .ok (.getfield 41, 3) := by decide +kernel
theorem dX5_film_41 : decode cX5_film 41 = .ok (.iload_n 1, 1) := by decide +kernel
theorem dX5_film_42 : decode cX5_film 42 = .ok (.aaload, 1) := by decide +kernel
theorem dX5_film_43 : decode cX5_film 43 = .ok (.iconst 2, 1) := by decide +kernel
theorem dX5_film_44 : decode cX5_film 44 = .ok (.bipush 48, 2) := by decide +kernel
theorem dX5_film_46 : decode cX5_film 46 = .ok (.invokevirtual 225, 3) := by decide +kernel
theorem dX5_film_49 : decode cX5_film 49 = .ok (.iconst 0, 1) := by decide +kernel
theorem dX5_film_50 : decode cX5_film 50 = .ok (.istore 4, 2) := by decide +kernel
theorem dX5_film_52 : decode cX5_film 52 = .ok (.iload 4, 2) := by decide +kernel
theorem dX5_film_54 : decode cX5_film 54 = .ok (.bipush 48, 2) := by decide +kernel
theorem dX5_film_56 : decode cX5_film 56 = .ok (.if_icmp .ge 40, 3) := by decide +kernel
theorem dX5_film_59 : decode cX5_film 59 = .ok (.aload_n 0, 1) := by decide +kernel
theorem dX5_film_60 : decode cX5_film 60 = .ok (.getfield 41, 3) := by decide +kernel
theorem dX5_film_63 : decode cX5_film 63 = .ok (.iload_n 1, 1) := by decide +kernel
theorem dX5_film_64 : decode cX5_film 64 = .ok (.aaload, 1) := by decide +kernel
theorem dX5_film_65 : decode cX5_film 65 = .ok (.iload 4, 2) := by decide +kernel
theorem dX5_film_67 : decode cX5_film 67 = .ok (.aload_n 0, 1) := by decide +kernel
theorem dX5_film_68 : decode cX5_film 68 = .ok (.getfield 35, 3) := by decide +kernel
theorem dX5_film_71 : decode cX5_film 71 = .ok (.getfield 167, 3) := by decide +kernel
theorem dX5_film_74 : decode cX5_film 74 = .ok (.iload 4, 2) := by decide +kernel
theorem dX5_film_76 : decode cX5_film 76 = .ok (.invokestatic 139, 3) := by decide +kernel
theorem dX5_film_79 : decode cX5_film 79 = .ok (.ifCond .eq 7, 3) := by decide +kernel
theorem dX5_film_82 : decode cX5_film 82 = .ok (.iconst 1, 1) := by decide +kernel
theorem dX5_film_83 : decode cX5_film 83 = .ok (.goto 4, 3) := by decide +kernel
theorem dX5_film_86 : decode cX5_film 86 = .ok (.iconst 0, 1) := by decide +kernel
theorem dX5_film_87 : decode cX5_film 87 = .ok (.invokevirtual 228, 3) := by decide +kernel
theorem dX5_film_90 : decode cX5_film 90 = .ok (.iinc 4 1, 3) := by decide +kernel
theorem dX5_film_93 : decode cX5_film 93 = .ok (.goto (-41), 3) := by decide +kernel
theorem dX5_film_96 : decode cX5_film 96 = .ok (.bipush 48, 2) := by decide +kernel
theorem dX5_film_98 : decode cX5_film 98 = .ok (.ireturn, 1) := by decide +kernel
theorem dX5_slips_0 : decode cX5_slips 0 = .ok (.iload_n 2, 1) := by decide +kernel
theorem dX5_slips_1 : decode cX5_slips 1 = .ok (.invokestatic 101, 3) := by decide +kernel
theorem dX5_slips_4 : decode cX5_slips 4 = .ok (.ifCond .ne 6, 3) := by decide +kernel
theorem dX5_slips_7 : decode cX5_slips 7 = .ok (.bipush (-5), 2) := by decide +kernel
theorem dX5_slips_9 : decode cX5_slips 9 = .ok (.ireturn, 1) := by decide +kernel
theorem dX5_slips_10 : decode cX5_slips 10 = .ok (.iload_n 1, 1) := by decide +kernel
theorem dX5_slips_11 : decode cX5_slips 11 = .ok (.iconst 0, 1) := by decide +kernel
theorem dX5_slips_12 : decode cX5_slips 12 = .ok (.ldc 231, 2) := by decide +kernel
theorem dX5_slips_14 : decode cX5_slips 14 = .ok (.invokestatic 97, 3) := by decide +kernel
theorem dX5_slips_17 : decode cX5_slips 17 = .ok (.ifCond .eq 21, 3) := by decide +kernel
theorem dX5_slips_20 : decode cX5_slips 20 = .ok (.iload_n 3, 1) := by decide +kernel
theorem dX5_slips_21 : decode cX5_slips 21 = .ok (.invokestatic 104, 3) := by decide +kernel
theorem dX5_slips_24 : decode cX5_slips 24 = .ok (.ifCond .eq 14, 3) := by decide +kernel
theorem dX5_slips_27 : decode cX5_slips 27 = .ok (.iload 4, 2) := by decide +kernel
theorem dX5_slips_29 : decode cX5_slips 29 = .ok (.iconst 0, 1) := by decide +kernel
theorem dX5_slips_30 : decode cX5_slips 30 = .ok (.bipush 100, 2) := by decide +kernel
theorem dX5_slips_32 : decode cX5_slips 32 = .ok (.invokestatic 97, 3) := by decide +kernel
theorem dX5_slips_35 : decode cX5_slips 35 = .ok (.ifCond .ne 6, 3) := by decide +kernel
theorem dX5_slips_38 : decode cX5_slips 38 = .ok (.bipush (-7), 2) := by decide +kernel
theorem dX5_slips_40 : decode cX5_slips 40 = .ok (.ireturn, 1) := by decide +kernel
theorem dX5_slips_41 : decode cX5_slips 41 = .ok (.aload_n 0, 1) := by decide +kernel
theorem dX5_slips_42 : decode cX5_slips 42 = .ok (.iload_n 2, 1) := by decide +kernel
theorem dX5_slips_43 : decode cX5_slips 43 = .ok (.iload_n 3, 1) := by decide +kernel
theorem dX5_slips_44 : decode cX5_slips 44 = .ok (.invokevirtual 163, 3) := by decide +kernel
theorem dX5_slips_47 : decode cX5_slips 47 = .ok (.pop, 1) := by decide +kernel
theorem dX5_slips_48 : decode cX5_slips 48 = .ok (.aload_n 0, 1) := by decide +kernel
theorem dX5_slips_49 : decode cX5_slips 49 = .ok (.iload_n 1, 1) := by decide +kernel
theorem dX5_slips_50 : decode cX5_slips 50 = .ok (.iload 4, 2) := by decide +kernel
theorem dX5_slips_52 : decode cX5_slips 52 = .ok (.invokevirtual 232, 3) := by decide +kernel
theorem dX5_slips_55 : decode cX5_slips 55 = .ok (.ireturn, 1) := by decide +kernel
theorem dX5_odds_0 : decode cX5_odds 0 = .ok (.iload_n 1, 1) := by decide +kernel
theorem dX5_odds_1 : decode cX5_odds 1 = .ok (.iconst 0, 1) := by decide +kernel
theorem dX5_odds_2 : decode cX5_odds 2 = .ok (.ldc 231, 2) := by decide +kernel
theorem dX5_odds_4 : decode cX5_odds 4 = .ok (.invokestatic 97, 3) := by decide +kernel
theorem dX5_odds_7 : decode cX5_odds 7 = .ok (.ifCond .eq 20, 3) := by decide +kernel
theorem dX5_odds_10 : decode cX5_odds 10 = .ok (.iload_n 2, 1) := by decide +kernel
theorem dX5_odds_11 : decode cX5_odds 11 = .ok (.iconst 1, 1) := by decide +kernel
theorem dX5_odds_12 : decode cX5_odds 12 = .ok (.bipush 50, 2) := by decide +kernel
theorem dX5_odds_14 : decode cX5_odds 14 = .ok (.invokestatic 97, 3) := by decide +kernel
theorem dX5_odds_17 : decode cX5_odds 17 = .ok (.ifCond .eq 10, 3) := by decide +kernel
theorem dX5_odds_20 : decode cX5_odds 20 = .ok (.iload_n 3, 1) := by decide +kernel
theorem dX5_odds_21 : decode cX5_odds 21 = .ok (.invokestatic 101, 3) := by decide +kernel
theorem dX5_odds_24 : decode cX5_odds 24 = .ok (.ifCond .ne 7, 3) := by decide +kernel
theorem dX5_odds_27 : decode cX5_odds 27 = .ok (.ldc2_w 149, 3) := by decide +kernel
theorem dX5_odds_30 : decode cX5_odds 30 = .ok (.lreturn, 1) := by decide +kernel
theorem dX5_odds_31 : decode cX5_odds 31 = .ok (.iload 4, 2) := by decide +kernel
theorem dX5_odds_33 : decode cX5_odds 33 = .ok (.invokestatic 104, 3) := by decide +kernel
theorem dX5_odds_36 : decode cX5_odds 36 = .ok (.ifCond .eq 24, 3) := by decide +kernel
theorem dX5_odds_39 : decode cX5_odds 39 = .ok (.iload 5, 2) := by decide +kernel
theorem dX5_odds_41 : decode cX5_odds 41 = .ok (.iconst 0, 1) := by decide +kernel
theorem dX5_odds_42 : decode cX5_odds 42 = .ok (.bipush 100, 2) := by decide +kernel
theorem dX5_odds_44 : decode cX5_odds 44 = .ok (.invokestatic 97, 3) := by decide +kernel
theorem dX5_odds_47 : decode cX5_odds 47 = .ok (.ifCond .eq 13, 3) := by decide +kernel
theorem dX5_odds_50 : decode cX5_odds 50 = .ok (.iload 6, 2) := by decide +kernel
theorem dX5_odds_52 : decode cX5_odds 52 = .ok (.iconst 0, 1) := by decide +kernel
theorem dX5_odds_53 : decode cX5_odds 53 = .ok (.iconst 1, 1) := by decide +kernel
theorem dX5_odds_54 : decode cX5_odds 54 = .ok (.invokestatic 97, 3) := by decide +kernel
theorem dX5_odds_57 : decode cX5_odds 57 = .ok (.ifCond .ne 7, 3) := by decide +kernel
theorem dX5_odds_60 : decode cX5_odds 60 = .ok (.ldc2_w 149, 3) := by decide +kernel
theorem dX5_odds_63 : decode cX5_odds 63 = .ok (.lreturn, 1) := by decide +kernel
theorem dX5_odds_64 : decode cX5_odds 64 = .ok (.aload_n 0, 1) := by decide +kernel
theorem dX5_odds_65 : decode cX5_odds 65 = .ok (.iload_n 3, 1) := by decide +kernel
theorem dX5_odds_66 : decode cX5_odds 66 = .ok (.iload 4, 2) := by decide +kernel
theorem dX5_odds_68 : decode cX5_odds 68 = .ok (.invokevirtual 163, 3) := by decide +kernel
theorem dX5_odds_71 : decode cX5_odds 71 = .ok (.pop, 1) := by decide +kernel
theorem dX5_odds_72 : decode cX5_odds 72 = .ok (.iconst 0, 1) := by decide +kernel
theorem dX5_odds_73 : decode cX5_odds 73 = .ok (.istore 7, 2) := by decide +kernel
theorem dX5_odds_75 : decode cX5_odds 75 = .ok (.iconst 0, 1) := by decide +kernel
theorem dX5_odds_76 : decode cX5_odds 76 = .ok (.istore 8, 2) := by decide +kernel
theorem dX5_odds_78 : decode cX5_odds 78 = .ok (.iload 8, 2) := by decide +kernel
theorem dX5_odds_80 : decode cX5_odds 80 = .ok (.iload_n 2, 1) := by decide +kernel
theorem dX5_odds_81 : decode cX5_odds 81 = .ok (.if_icmp .ge 25, 3) := by decide +kernel
theorem dX5_odds_84 : decode cX5_odds 84 = .ok (.aload_n 0, 1) := by decide +kernel
theorem dX5_odds_85 : decode cX5_odds 85 = .ok (.iload_n 1, 1) := by decide +kernel
theorem dX5_odds_86 : decode cX5_odds 86 = .ok (.iload 8, 2) := by decide +kernel
theorem dX5_odds_88 : decode cX5_odds 88 = .ok (.iadd, 1) := by decide +kernel
theorem dX5_odds_89 : decode cX5_odds 89 = .ok (.iload 5, 2) := by decide +kernel
theorem dX5_odds_91 : decode cX5_odds 91 = .ok (.invokevirtual 232, 3) := by decide +kernel
theorem dX5_odds_94 : decode cX5_odds 94 = .ok (.ifCond .ne 6, 3) := by decide +kernel
theorem dX5_odds_97 : decode cX5_odds 97 = .ok (.iinc 7 1, 3) := by decide +kernel
theorem dX5_odds_100 : decode cX5_odds 100 = .ok (.iinc 8 1, 3) := by decide +kernel
theorem dX5_odds_103 : decode cX5_odds 103 = .ok (.goto (-25), 3) := by decide +kernel
theorem dX5_odds_106 : decode cX5_odds 106 = .ok (.iload 6, 2) := by decide +kernel
theorem dX5_odds_108 : decode cX5_odds 108 = .ok (.ifCond .ne 8, 3) := by decide +kernel
theorem dX5_odds_111 : decode cX5_odds 111 = .ok (.iload 7, 2) := by decide +kernel
theorem dX5_odds_113 : decode cX5_odds 113 = .ok (.goto 4, 3) := by decide +kernel
theorem dX5_odds_116 : decode cX5_odds 116 = .ok (.iload_n 2, 1) := by decide +kernel
theorem dX5_odds_117 : decode cX5_odds 117 = .ok (.istore 8, 2) := by decide +kernel
theorem dX5_odds_119 : decode cX5_odds 119 = .ok (.iload 7, 2) := by decide +kernel
theorem dX5_odds_121 : decode cX5_odds 121 = .ok (.iload_n 2, 1) := by decide +kernel
theorem dX5_odds_122 : decode cX5_odds 122 = .ok (.invokestatic 235, 3) := by decide +kernel
theorem dX5_odds_125 : decode cX5_odds 125 = .ok (.istore 9, 2) := by decide +kernel
theorem dX5_odds_127 : decode cX5_odds 127 = .ok (.iload 9, 2) := by decide +kernel
theorem dX5_odds_129 : decode cX5_odds 129 = .ok (.iconst 1, 1) := by decide +kernel
theorem dX5_odds_130 : decode cX5_odds 130 = .ok (.if_icmp .le 12, 3) := by decide +kernel
theorem dX5_odds_133 : decode cX5_odds 133 = .ok (.iload 8, 2) := by decide +kernel
theorem dX5_odds_135 : decode cX5_odds 135 = .ok (.iload 9, 2) := by decide +kernel
theorem dX5_odds_137 : decode cX5_odds 137 = .ok (.idiv, 1) := by decide +kernel
theorem dX5_odds_138 : decode cX5_odds 138 = .ok (.i2l, 1) := by decide +kernel
theorem dX5_odds_139 : decode cX5_odds 139 = .ok (.goto 6, 3) := by decide +kernel
theorem dX5_odds_142 : decode cX5_odds 142 = .ok (.iload 8, 2) := by decide +kernel
theorem dX5_odds_144 : decode cX5_odds 144 = .ok (.i2l, 1) := by decide +kernel
theorem dX5_odds_145 : decode cX5_odds 145 = .ok (.lreturn, 1) := by decide +kernel
theorem dX5_image_0 : decode cX5_image 0 = .ok (.aload_n 0, 1) := by decide +kernel
theorem dX5_image_1 : decode cX5_image 1 = .ok (.getfield 16, 3) := by decide +kernel
theorem dX5_image_4 : decode cX5_image 4 = .ok (.aload_n 0, 1) := by decide +kernel
theorem dX5_image_5 : decode cX5_image 5 = .ok (.getfield 10, 3) := by decide +kernel
theorem dX5_image_8 : decode cX5_image 8 = .ok (.invokevirtual 238, 3) := by decide +kernel
theorem dX5_image_11 : decode cX5_image 11 = .ok (.aload_n 0, 1) := by decide +kernel
theorem dX5_image_12 : decode cX5_image 12 = .ok (.iconst 1, 1) := by decide +kernel
theorem dX5_image_13 : decode cX5_image 13 = .ok (.putfield 242, 3) := by decide +kernel
theorem dX5_image_16 : decode cX5_image 16 = .ok (.aload_n 0, 1) := by decide +kernel
theorem dX5_image_17 : decode cX5_image 17 = .ok (.getfield 10, 3) := by decide +kernel
theorem dX5_image_20 : decode cX5_image 20 = .ok (.getfield 70, 3) := by decide +kernel
theorem dX5_image_23 : decode cX5_image 23 = .ok (.invokestatic 74, 3) := by decide +kernel
theorem dX5_image_26 : decode cX5_image 26 = .ok (.ireturn, 1) := by decide +kernel
theorem dX5_restore_0 : decode cX5_restore 0 = .ok (.aload_n 0, 1) := by decide +kernel
theorem dX5_restore_1 : decode cX5_restore 1 = .ok (.getfield 242, 3) := by decide +kernel
theorem dX5_restore_4 : decode cX5_restore 4 = .ok (.ifCond .ne 6, 3) := by decide +kernel
theorem dX5_restore_7 : decode cX5_restore 7 = .ok (.bipush (-3), 2) := by decide +kernel
theorem dX5_restore_9 : decode cX5_restore 9 = .ok (.ireturn, 1) := by decide +kernel
theorem dX5_restore_10 : decode cX5_restore 10 = .ok (.aload_n 0, 1) := by decide +kernel
theorem dX5_restore_11 : decode cX5_restore 11 = .ok (.getfield 10, 3) := by decide +kernel
theorem dX5_restore_14 : decode cX5_restore 14 = .ok (.aload_n 0, 1) := by decide +kernel
theorem dX5_restore_15 : decode cX5_restore 15 = .ok (.getfield 16, 3) := by decide +kernel
theorem dX5_restore_18 : decode cX5_restore 18 = .ok (.invokevirtual 238, 3) := by decide +kernel
theorem dX5_restore_21 : decode cX5_restore 21 = .ok (.aload_n 0, 1) := by decide +kernel
theorem dX5_restore_22 : decode cX5_restore 22 = .ok (.getfield 10, 3) := by decide +kernel
theorem dX5_restore_25 : decode cX5_restore 25 = .ok (.getfield 70, 3) := by decide +kernel
theorem dX5_restore_28 : decode cX5_restore 28 = .ok (.invokestatic 74, 3) := by decide +kernel
theorem dX5_restore_31 : decode cX5_restore 31 = .ok (.ireturn, 1) := by decide +kernel
theorem dX5_sheet_0 : decode cX5_sheet 0 = .ok (.iload_n 1, 1) := by decide +kernel
theorem dX5_sheet_1 : decode cX5_sheet 1 = .ok (.invokestatic 222, 3) := by decide +kernel
theorem dX5_sheet_4 : decode cX5_sheet 4 = .ok (.ifCond .eq 12, 3) := by decide +kernel
theorem dX5_sheet_7 : decode cX5_sheet 7 = .ok (.iload_n 2, 1) := by decide +kernel
theorem dX5_sheet_8 : decode cX5_sheet 8 = .ok (.iconst (-1), 1) := by decide +kernel
theorem dX5_sheet_9 : decode cX5_sheet 9 = .ok (.iconst 2, 1) := by decide +kernel
theorem dX5_sheet_10 : decode cX5_sheet 10 = .ok (.invokestatic 97, 3) := by decide +kernel
theorem dX5_sheet_13 : decode cX5_sheet 13 = .ok (.ifCond .ne 6, 3) := by decide +kernel
theorem dX5_sheet_16 : decode cX5_sheet 16 = .ok (.bipush (-2), 2) := by decide +kernel
theorem dX5_sheet_18 : decode cX5_sheet 18 = .ok (.ireturn, 1) := by decide +kernel
theorem dX5_sheet_19 : decode cX5_sheet 19 = .ok (.iload_n 2, 1) := by decide +kernel
theorem dX5_sheet_20 : decode cX5_sheet 20 = .ok (.iconst (-1), 1) := by decide +kernel
theorem dX5_sheet_21 : decode cX5_sheet 21 = .ok (.if_icmp .ne 16, 3) := by decide +kernel
theorem dX5_sheet_24 : decode cX5_sheet 24 = .ok (.aload_n 0, 1) := by decide +kernel
theorem dX5_sheet_25 : decode cX5_sheet 25 = .ok (.getfield 41, 3) := by decide +kernel
theorem dX5_sheet_28 : decode cX5_sheet 28 = .ok (.iload_n 1, 1) := by decide +kernel
theorem dX5_sheet_29 : decode cX5_sheet 29 = .ok (.aaload, 1) := by decide +kernel
theorem dX5_sheet_30 : decode cX5_sheet 30 = .ok (.iconst (-1), 1) := by decide +kernel
theorem dX5_sheet_31 : decode cX5_sheet 31 = .ok (.iconst 0, 1) := by decide +kernel
theorem dX5_sheet_32 : decode cX5_sheet 32 = .ok (.invokevirtual 225, 3) := by decide +kernel
theorem dX5_sheet_35 : decode cX5_sheet 35 = .ok (.iconst 1, 1) := by decide +kernel
theorem dX5_sheet_36 : decode cX5_sheet 36 = .ok (.ireturn, 1) := by decide +kernel
theorem dX5_sheet_37 : decode cX5_sheet 37 = .ok (.iload_n 3, 1) := by decide +kernel
theorem dX5_sheet_38 : decode cX5_sheet 38 = .ok (.bipush 48, 2) := by decide +kernel
theorem dX5_sheet_40 : decode cX5_sheet 40 = .ok (.if_icmp .le 6, 3) := by decide +kernel
theorem dX5_sheet_43 : decode cX5_sheet 43 = .ok (.bipush (-2), 2) := by decide +kernel
theorem dX5_sheet_45 : decode cX5_sheet 45 = .ok (.ireturn, 1) := by decide +kernel
theorem dX5_sheet_46 : decode cX5_sheet 46 = .ok (.iload_n 3, 1) := by decide +kernel
theorem dX5_sheet_47 : decode cX5_sheet 47 = .ok (.ifCond .ge 6, 3) := by decide +kernel
theorem dX5_sheet_50 : decode cX5_sheet 50 = .ok (.bipush (-14), 2) := by decide +kernel
theorem dX5_sheet_52 : decode cX5_sheet 52 = .ok (.ireturn, 1) := by decide +kernel
theorem dX5_sheet_53 : decode cX5_sheet 53 = .ok (.aload_n 0, 1) := by decide +kernel
theorem dX5_sheet_54 : decode cX5_sheet 54 = .ok (.getfield 41, 3) := by decide +kernel
theorem dX5_sheet_57 : decode cX5_sheet 57 = .ok (.iload_n 1, 1) := by decide +kernel
theorem dX5_sheet_58 : decode cX5_sheet 58 = .ok (.aaload, 1) := by decide +kernel
theorem dX5_sheet_59 : decode cX5_sheet 59 = .ok (.iload_n 2, 1) := by decide +kernel
theorem dX5_sheet_60 : decode cX5_sheet 60 = .ok (.iload_n 3, 1) := by decide +kernel
theorem dX5_sheet_61 : decode cX5_sheet 61 = .ok (.invokevirtual 225, 3) := by decide +kernel
theorem dX5_sheet_64 : decode cX5_sheet 64 = .ok (.iconst 1, 1) := by decide +kernel
theorem dX5_sheet_65 : decode cX5_sheet 65 = .ok (.ireturn, 1) := by decide +kernel
theorem dX5_cell_0 : decode cX5_cell 0 = .ok (.iload_n 1, 1) := by decide +kernel
theorem dX5_cell_1 : decode cX5_cell 1 = .ok (.invokestatic 222, 3) := by decide +kernel
theorem dX5_cell_4 : decode cX5_cell 4 = .ok (.ifCond .ne 6, 3) := by decide +kernel
theorem dX5_cell_7 : decode cX5_cell 7 = .ok (.bipush (-2), 2) := by decide +kernel
theorem dX5_cell_9 : decode cX5_cell 9 = .ok (.ireturn, 1) := by decide +kernel
theorem dX5_cell_10 : decode cX5_cell 10 = .ok (.aload_n 0, 1) := by decide +kernel
theorem dX5_cell_11 : decode cX5_cell 11 = .ok (.getfield 41, 3) := by decide +kernel
theorem dX5_cell_14 : decode cX5_cell 14 = .ok (.iload_n 1, 1) := by decide +kernel
theorem dX5_cell_15 : decode cX5_cell 15 = .ok (.aaload, 1) := by decide +kernel
theorem dX5_cell_16 : decode cX5_cell 16 = .ok (.invokevirtual 246, 3) := by decide +kernel
theorem dX5_cell_19 : decode cX5_cell 19 = .ok (.ifCond .eq 6, 3) := by decide +kernel
theorem dX5_cell_22 : decode cX5_cell 22 = .ok (.bipush (-11), 2) := by decide +kernel
theorem dX5_cell_24 : decode cX5_cell 24 = .ok (.ireturn, 1) := by decide +kernel
theorem dX5_cell_25 : decode cX5_cell 25 = .ok (.iload_n 2, 1) := by decide +kernel
theorem dX5_cell_26 : decode cX5_cell 26 = .ok (.iconst 0, 1) := by decide +kernel
theorem dX5_cell_27 : decode cX5_cell 27 = .ok (.aload_n 0, 1) := by decide +kernel
theorem dX5_cell_28 : decode cX5_cell 28 = .ok (.getfield 41, 3) := by decide +kernel
theorem dX5_cell_31 : decode cX5_cell 31 = .ok (.iload_n 1, 1) := by decide +kernel
theorem dX5_cell_32 : decode cX5_cell 32 = .ok (.aaload, 1) := by decide +kernel
theorem dX5_cell_33 : decode cX5_cell 33 = .ok (.getfield 250, 3) := by decide +kernel
theorem dX5_cell_36 : decode cX5_cell 36 = .ok (.iconst 1, 1) := by decide +kernel
theorem dX5_cell_37 : decode cX5_cell 37 = .ok (.isub, 1) := by decide +kernel
theorem dX5_cell_38 : decode cX5_cell 38 = .ok (.invokestatic 97, 3) := by decide +kernel
theorem dX5_cell_41 : decode cX5_cell 41 = .ok (.ifCond .ne 6, 3) := by decide +kernel
theorem dX5_cell_44 : decode cX5_cell 44 = .ok (.bipush (-12), 2) := by decide +kernel
theorem dX5_cell_46 : decode cX5_cell 46 = .ok (.ireturn, 1) := by decide +kernel
theorem dX5_cell_47 : decode cX5_cell 47 = .ok (.aload_n 0, 1) := by decide +kernel
theorem dX5_cell_48 : decode cX5_cell 48 = .ok (.getfield 41, 3) := by decide +kernel
theorem dX5_cell_51 : decode cX5_cell 51 = .ok (.iload_n 1, 1) := by decide +kernel
theorem dX5_cell_52 : decode cX5_cell 52 = .ok (.aaload, 1) := by decide +kernel
theorem dX5_cell_53 : decode cX5_cell 53 = .ok (.iload_n 2, 1) := by decide +kernel
theorem dX5_cell_54 : decode cX5_cell 54 = .ok (.iload_n 3, 1) := by decide +kernel
theorem dX5_cell_55 : decode cX5_cell 55 = .ok (.invokevirtual 228, 3) := by decide +kernel
theorem dX5_cell_58 : decode cX5_cell 58 = .ok (.iconst 1, 1) := by decide +kernel
theorem dX5_cell_59 : decode cX5_cell 59 = .ok (.ireturn, 1) := by decide +kernel
theorem dX5_copy_0 : decode cX5_copy 0 = .ok (.iload_n 1, 1) := by decide +kernel
theorem dX5_copy_1 : decode cX5_copy 1 = .ok (.invokestatic 222, 3) := by decide +kernel
theorem dX5_copy_4 : decode cX5_copy 4 = .ok (.ifCond .eq 10, 3) := by decide +kernel
theorem dX5_copy_7 : decode cX5_copy 7 = .ok (.iload_n 3, 1) := by decide +kernel
theorem dX5_copy_8 : decode cX5_copy 8 = .ok (.invokestatic 222, 3) := by decide +kernel
theorem dX5_copy_11 : decode cX5_copy 11 = .ok (.ifCond .ne 6, 3) := by decide +kernel
theorem dX5_copy_14 : decode cX5_copy 14 = .ok (.bipush (-2), 2) := by decide +kernel
theorem dX5_copy_16 : decode cX5_copy 16 = .ok (.ireturn, 1) := by decide +kernel
theorem dX5_copy_17 : decode cX5_copy 17 = .ok (.aload_n 0, 1) := by decide +kernel
theorem dX5_copy_18 : decode cX5_copy 18 = .ok (.getfield 41, 3) := by decide +kernel
theorem dX5_copy_21 : decode cX5_copy 21 = .ok (.iload_n 1, 1) := by decide +kernel
theorem dX5_copy_22 : decode cX5_copy 22 = .ok (.aaload, 1) := by decide +kernel
theorem dX5_copy_23 : decode cX5_copy 23 = .ok (.astore 6, 2) := by decide +kernel
theorem dX5_copy_25 : decode cX5_copy 25 = .ok (.aload_n 0, 1) := by decide +kernel
theorem dX5_copy_26 : decode cX5_copy 26 = .ok (.getfield 41, 3) := by decide +kernel
theorem dX5_copy_29 : decode cX5_copy 29 = .ok (.iload_n 3, 1) := by decide +kernel
theorem dX5_copy_30 : decode cX5_copy 30 = .ok (.aaload, 1) := by decide +kernel
theorem dX5_copy_31 : decode cX5_copy 31 = .ok (.astore 7, 2) := by decide +kernel
theorem dX5_copy_33 : decode cX5_copy 33 = .ok (.aload 6, 2) := by decide +kernel
theorem dX5_copy_35 : decode cX5_copy 35 = .ok (.invokevirtual 246, 3) := by decide +kernel
theorem dX5_copy_38 : decode cX5_copy 38 = .ok (.ifCond .ne 11, 3) := by decide +kernel
theorem dX5_copy_41 : decode cX5_copy 41 = .ok (.aload 7, 2) := by decide +kernel
theorem dX5_copy_43 : decode cX5_copy 43 = .ok (.invokevirtual 246, 3) := by decide +kernel
theorem dX5_copy_46 : decode cX5_copy 46 = .ok (.ifCond .eq 6, 3) := by decide +kernel
theorem dX5_copy_49 : decode cX5_copy 49 = .ok (.bipush (-11), 2) := by decide +kernel
theorem dX5_copy_51 : decode cX5_copy 51 = .ok (.ireturn, 1) := by decide +kernel
theorem dX5_copy_52 : decode cX5_copy 52 = .ok (.aload 6, 2) := by decide +kernel
theorem dX5_copy_54 : decode cX5_copy 54 = .ok (.getfield 251, 3) := by decide +kernel
theorem dX5_copy_57 : decode cX5_copy 57 = .ok (.aload 7, 2) := by decide +kernel
theorem dX5_copy_59 : decode cX5_copy 59 = .ok (.getfield 251, 3) := by decide +kernel
theorem dX5_copy_62 : decode cX5_copy 62 = .ok (.if_icmp .eq 6, 3) := by decide +kernel
theorem dX5_copy_65 : decode cX5_copy 65 = .ok (.bipush (-13), 2) := by decide +kernel
theorem dX5_copy_67 : decode cX5_copy 67 = .ok (.ireturn, 1) := by decide +kernel
theorem dX5_copy_68 : decode cX5_copy 68 = .ok (.aload 6, 2) := by decide +kernel
theorem dX5_copy_70 : decode cX5_copy 70 = .ok (.iload_n 2, 1) := by decide +kernel
theorem dX5_copy_71 : decode cX5_copy 71 = .ok (.iload 5, 2) := by decide +kernel
theorem dX5_copy_73 : decode cX5_copy 73 = .ok (.invokevirtual 254, 3) := by decide +kernel
theorem dX5_copy_76 : decode cX5_copy 76 = .ok (.ifCond .eq 15, 3) := by decide +kernel
theorem dX5_copy_79 : decode cX5_copy 79 = .ok (.aload 7, 2) := by decide +kernel
theorem dX5_copy_81 : decode cX5_copy 81 = .ok (.iload 4, 2) := by decide +kernel
theorem dX5_copy_83 : decode cX5_copy 83 = .ok (.iload 5, 2) := by decide +kernel
theorem dX5_copy_85 : decode cX5_copy 85 = .ok (.invokevirtual 254, 3) := by decide +kernel
theorem dX5_copy_88 : decode cX5_copy 88 = .ok (.ifCond .ne 6, 3) := by decide +kernel
theorem dX5_copy_91 : decode cX5_copy 91 = .ok (.bipush (-12), 2) := by decide +kernel
theorem dX5_copy_93 : decode cX5_copy 93 = .ok (.ireturn, 1) := by decide +kernel
theorem dX5_copy_94 : decode cX5_copy 94 = .ok (.aload 6, 2) := by decide +kernel
theorem dX5_copy_96 : decode cX5_copy 96 = .ok (.getfield 202, 3) := by decide +kernel
theorem dX5_copy_99 : decode cX5_copy 99 = .ok (.iload_n 2, 1) := by decide +kernel
theorem dX5_copy_100 : decode cX5_copy 100 = .ok (.aload 7, 2) := by decide +kernel
theorem dX5_copy_102 : decode cX5_copy 102 = .ok (.getfield 202, 3) := by decide +kernel
theorem dX5_copy_105 : decode cX5_copy 105 = .ok (.iload 4, 2) := by decide +kernel
theorem dX5_copy_107 : decode cX5_copy 107 = .ok (.iload 5, 2) := by decide +kernel
theorem dX5_copy_109 : decode cX5_copy 109 = .ok (.invokestatic 257, 3) := by decide +kernel
theorem dX5_copy_112 : decode cX5_copy 112 = .ok (.iload 5, 2) := by decide +kernel
theorem dX5_copy_114 : decode cX5_copy 114 = .ok (.ireturn, 1) := by decide +kernel
theorem dX5_knits_0 : decode cX5_knits 0 = .ok (.iload_n 1, 1) := by decide +kernel
theorem dX5_knits_1 : decode cX5_knits 1 = .ok (.invokestatic 222, 3) := by decide +kernel
theorem dX5_knits_4 : decode cX5_knits 4 = .ok (.ifCond .eq 23, 3) := by decide +kernel
theorem dX5_knits_7 : decode cX5_knits 7 = .ok (.iload_n 2, 1) := by decide +kernel
theorem dX5_knits_8 : decode cX5_knits 8 = .ok (.iconst 0, 1) := by decide +kernel
theorem dX5_knits_9 : decode cX5_knits 9 = .ok (.iconst 2, 1) := by decide +kernel
theorem dX5_knits_10 : decode cX5_knits 10 = .ok (.invokestatic 97, 3) := by decide +kernel
theorem dX5_knits_13 : decode cX5_knits 13 = .ok (.ifCond .eq 14, 3) := by decide +kernel
theorem dX5_knits_16 : decode cX5_knits 16 = .ok (.iload 4, 2) := by decide +kernel
theorem dX5_knits_18 : decode cX5_knits 18 = .ok (.iconst 0, 1) := by decide +kernel
theorem dX5_knits_19 : decode cX5_knits 19 = .ok (.bipush 16, 2) := by decide +kernel
theorem dX5_knits_21 : decode cX5_knits 21 = .ok (.invokestatic 97, 3) := by decide +kernel
theorem dX5_knits_24 : decode cX5_knits 24 = .ok (.ifCond .ne 6, 3) := by decide +kernel
theorem dX5_knits_27 : decode cX5_knits 27 = .ok (.bipush (-2), 2) := by decide +kernel
theorem dX5_knits_29 : decode cX5_knits 29 = .ok (.ireturn, 1) := by decide +kernel
theorem dX5_knits_30 : decode cX5_knits 30 = .ok (.aload_n 0, 1) := by decide +kernel
theorem dX5_knits_31 : decode cX5_knits 31 = .ok (.getfield 41, 3) := by decide +kernel
theorem dX5_knits_34 : decode cX5_knits 34 = .ok (.iload_n 1, 1) := by decide +kernel
theorem dX5_knits_35 : decode cX5_knits 35 = .ok (.aaload, 1) := by decide +kernel
theorem dX5_knits_36 : decode cX5_knits 36 = .ok (.astore 5, 2) := by decide +kernel
theorem dX5_knits_38 : decode cX5_knits 38 = .ok (.aload 5, 2) := by decide +kernel
theorem dX5_knits_40 : decode cX5_knits 40 = .ok (.invokevirtual 246, 3) := by decide +kernel
theorem dX5_knits_43 : decode cX5_knits 43 = .ok (.ifCond .eq 6, 3) := by decide +kernel
theorem dX5_knits_46 : decode cX5_knits 46 = .ok (.bipush (-11), 2) := by decide +kernel
theorem dX5_knits_48 : decode cX5_knits 48 = .ok (.ireturn, 1) := by decide +kernel
theorem dX5_knits_49 : decode cX5_knits 49 = .ok (.aload 5, 2) := by decide +kernel
theorem dX5_knits_51 : decode cX5_knits 51 = .ok (.getfield 251, 3) := by decide +kernel
theorem dX5_knits_54 : decode cX5_knits 54 = .ok (.iload_n 2, 1) := by decide +kernel
theorem dX5_knits_55 : decode cX5_knits 55 = .ok (.if_icmp .eq 6, 3) := by decide +kernel
theorem dX5_knits_58 : decode cX5_knits 58 = .ok (.bipush (-13), 2) := by decide +kernel
theorem dX5_knits_60 : decode cX5_knits 60 = .ok (.ireturn, 1) := by decide +kernel
theorem dX5_knits_61 : decode cX5_knits 61 = .ok (.iconst 0, 1) := by decide +kernel
theorem dX5_knits_62 : decode cX5_knits 62 = .ok (.istore 6, 2) := by decide +kernel
theorem dX5_knits_64 : decode cX5_knits 64 = .ok (.iconst 0, 1) := by decide +kernel
theorem dX5_knits_65 : decode cX5_knits 65 = .ok (.istore 7, 2) := by decide +kernel
theorem dX5_knits_67 : decode cX5_knits 67 = .ok (.iload 7, 2) := by decide +kernel
theorem dX5_knits_69 : decode cX5_knits 69 = .ok (.iload 4, 2) := by decide +kernel
theorem dX5_knits_71 : decode cX5_knits 71 = .ok (.if_icmp .ge 69, 3) := by decide +kernel
theorem dX5_knits_74 : decode cX5_knits 74 = .ok (.iload_n 3, 1) := by decide +kernel
theorem dX5_knits_75 : decode cX5_knits 75 = .ok (.iconst 3, 1) := by decide +kernel
theorem dX5_knits_76 : decode cX5_knits 76 = .ok (.iload 7, 2) := by decide +kernel
theorem dX5_knits_78 : decode cX5_knits 78 = .ok (.imul, 1) := by decide +kernel
theorem dX5_knits_79 : decode cX5_knits 79 = .ok (.iadd, 1) := by decide +kernel
theorem dX5_knits_80 : decode cX5_knits 80 = .ok (.istore 8, 2) := by decide +kernel
theorem dX5_knits_82 : decode cX5_knits 82 = .ok (.aload 5, 2) := by decide +kernel
theorem dX5_knits_84 : decode cX5_knits 84 = .ok (.iload 8, 2) := by decide +kernel
theorem dX5_knits_86 : decode cX5_knits 86 = .ok (.iconst 3, 1) := by decide +kernel
theorem dX5_knits_87 : decode cX5_knits 87 = .ok (.invokevirtual 254, 3) := by decide +kernel
theorem dX5_knits_90 : decode cX5_knits 90 = .ok (.ifCond .ne 6, 3) := by decide +kernel
theorem dX5_knits_93 : decode cX5_knits 93 = .ok (.bipush (-12), 2) := by decide +kernel
theorem dX5_knits_95 : decode cX5_knits 95 = .ok (.ireturn, 1) := by decide +kernel
theorem dX5_knits_96 : decode cX5_knits 96 = .ok (.aload_n 0, 1) := by decide +kernel
theorem dX5_knits_97 : decode cX5_knits 97 = .ok (.aload 5, 2) := by decide +kernel
theorem dX5_knits_99 : decode cX5_knits 99 = .ok (.getfield 202, 3) := by decide +kernel
theorem dX5_knits_102 : decode cX5_knits 102 = .ok (.iload 8, 2) := by decide +kernel
theorem dX5_knits_104 : decode cX5_knits 104 = .ok (.iaload, 1) := by decide +kernel
theorem dX5_knits_105 : decode cX5_knits 105 = .ok (.aload 5, 2) := by decide +kernel
theorem dX5_knits_107 : decode cX5_knits 107 = .ok (.getfield 202, 3) := by decide +kernel
theorem dX5_knits_110 : decode cX5_knits 110 = .ok (.iload 8, 2) := by decide +kernel
theorem dX5_knits_112 : decode cX5_knits 112 = .ok (.iconst 1, 1) := by decide +kernel
theorem dX5_knits_113 : decode cX5_knits 113 = .ok (.iadd, 1) := by decide +kernel
theorem dX5_knits_114 : decode cX5_knits 114 = .ok (.iaload, 1) := by decide +kernel
theorem dX5_knits_115 : decode cX5_knits 115 = .ok (.aload 5, 2) := by decide +kernel
theorem dX5_knits_117 : decode cX5_knits 117 = .ok (.getfield 202, 3) := by decide +kernel
theorem dX5_knits_120 : decode cX5_knits 120 = .ok (.iload 8, 2) := by decide +kernel
theorem dX5_knits_122 : decode cX5_knits 122 = .ok (.iconst 2, 1) := by decide +kernel
theorem dX5_knits_123 : decode cX5_knits 123 = .ok (.iadd, 1) := by decide +kernel
theorem dX5_knits_124 : decode cX5_knits 124 = .ok (.iaload, 1) := by decide +kernel
theorem dX5_knits_125 : decode cX5_knits 125 = .ok (.invokevirtual 263, 3) := by decide +kernel
theorem dX5_knits_128 : decode cX5_knits 128 = .ok (.ifCond .lt 6, 3) := by decide +kernel
theorem dX5_knits_131 : decode cX5_knits 131 = .ok (.iinc 6 1, 3) := by decide +kernel
theorem dX5_knits_134 : decode cX5_knits 134 = .ok (.iinc 7 1, 3) := by decide +kernel
theorem dX5_knits_137 : decode cX5_knits 137 = .ok (.goto (-70), 3) := by decide +kernel
theorem dX5_knits_140 : decode cX5_knits 140 = .ok (.iload 6, 2) := by decide +kernel
theorem dX5_knits_142 : decode cX5_knits 142 = .ok (.ireturn, 1) := by decide +kernel
theorem dX5_taken_0 : decode cX5_taken 0 = .ok (.iload_n 2, 1) := by decide +kernel
theorem dX5_taken_1 : decode cX5_taken 1 = .ok (.iconst 0, 1) := by decide +kernel
theorem dX5_taken_2 : decode cX5_taken 2 = .ok (.bipush 6, 2) := by decide +kernel
theorem dX5_taken_4 : decode cX5_taken 4 = .ok (.invokestatic 97, 3) := by decide +kernel
theorem dX5_taken_7 : decode cX5_taken 7 = .ok (.ifCond .ne 6, 3) := by decide +kernel
theorem dX5_taken_10 : decode cX5_taken 10 = .ok (.bipush (-2), 2) := by decide +kernel
theorem dX5_taken_12 : decode cX5_taken 12 = .ok (.ireturn, 1) := by decide +kernel
theorem dX5_taken_13 : decode cX5_taken 13 = .ok (.iload_n 1, 1) := by decide +kernel
theorem dX5_taken_14 : decode cX5_taken 14 = .ok (.iconst 0, 1) := by decide +kernel
theorem dX5_taken_15 : decode cX5_taken 15 = .ok (.bipush 55, 2) := by decide +kernel
theorem dX5_taken_17 : decode cX5_taken 17 = .ok (.invokestatic 97, 3) := by decide +kernel
theorem dX5_taken_20 : decode cX5_taken 20 = .ok (.ifCond .ne 6, 3) := by decide +kernel
theorem dX5_taken_23 : decode cX5_taken 23 = .ok (.bipush (-12), 2) := by decide +kernel
theorem dX5_taken_25 : decode cX5_taken 25 = .ok (.ireturn, 1) := by decide +kernel
theorem dX5_taken_26 : decode cX5_taken 26 = .ok (.iload_n 1, 1) := by decide +kernel
theorem dX5_taken_27 : decode cX5_taken 27 = .ok (.invokestatic 101, 3) := by decide +kernel
theorem dX5_taken_30 : decode cX5_taken 30 = .ok (.ifCond .eq 32, 3) := by decide +kernel
theorem dX5_taken_33 : decode cX5_taken 33 = .ok (.iload_n 2, 1) := by decide +kernel
theorem dX5_taken_34 : decode cX5_taken 34 = .ok (.bipush 6, 2) := by decide +kernel
theorem dX5_taken_36 : decode cX5_taken 36 = .ok (.if_icmp .eq 23, 3) := by decide +kernel
theorem dX5_taken_39 : decode cX5_taken 39 = .ok (.aload_n 0, 1) := by decide +kernel
theorem dX5_taken_40 : decode cX5_taken 40 = .ok (.getfield 10, 3) := by decide +kernel
theorem dX5_taken_43 : decode cX5_taken 43 = .ok (.getfield 118, 3) := by decide +kernel
theorem dX5_taken_46 : decode cX5_taken 46 = .ok (.iload_n 1, 1) := by decide +kernel
theorem dX5_taken_47 : decode cX5_taken 47 = .ok (.iaload, 1) := by decide +kernel
theorem dX5_taken_48 : decode cX5_taken 48 = .ok (.iload_n 2, 1) := by decide +kernel
theorem dX5_taken_49 : decode cX5_taken 49 = .ok (.invokestatic 266, 3) := by decide +kernel
theorem dX5_taken_52 : decode cX5_taken 52 = .ok (.ifCond .eq 7, 3) := by decide +kernel
theorem dX5_taken_55 : decode cX5_taken 55 = .ok (.iload_n 1, 1) := by decide +kernel
theorem dX5_taken_56 : decode cX5_taken 56 = .ok (.goto 5, 3) := by decide +kernel
theorem dX5_taken_59 : decode cX5_taken 59 = .ok (.bipush (-13), 2) := by decide +kernel
theorem dX5_taken_61 : decode cX5_taken 61 = .ok (.ireturn, 1) := by decide +kernel
theorem dX5_taken_62 : decode cX5_taken 62 = .ok (.aload_n 0, 1) := by decide +kernel
theorem dX5_taken_63 : decode cX5_taken 63 = .ok (.iload_n 1, 1) := by decide +kernel
theorem dX5_taken_64 : decode cX5_taken 64 = .ok (.bipush 48, 2) := by decide +kernel
theorem dX5_taken_66 : decode cX5_taken 66 = .ok (.isub, 1) := by decide +kernel
theorem dX5_taken_67 : decode cX5_taken 67 = .ok (.invokevirtual 269, 3) := by decide +kernel
theorem dX5_taken_70 : decode cX5_taken 70 = .ok (.istore_n 3, 1) := by decide +kernel
theorem dX5_taken_71 : decode cX5_taken 71 = .ok (.iload_n 3, 1) := by decide +kernel
theorem dX5_taken_72 : decode cX5_taken 72 = .ok (.ifCond .ne 6, 3) := by decide +kernel
theorem dX5_taken_75 : decode cX5_taken 75 = .ok (.bipush (-11), 2) := by decide +kernel
theorem dX5_taken_77 : decode cX5_taken 77 = .ok (.ireturn, 1) := by decide +kernel
theorem dX5_taken_78 : decode cX5_taken 78 = .ok (.iload_n 2, 1) := by decide +kernel
theorem dX5_taken_79 : decode cX5_taken 79 = .ok (.bipush 6, 2) := by decide +kernel
theorem dX5_taken_81 : decode cX5_taken 81 = .ok (.if_icmp .ne 7, 3) := by decide +kernel
theorem dX5_taken_84 : decode cX5_taken 84 = .ok (.iload_n 3, 1) := by decide +kernel
theorem dX5_taken_85 : decode cX5_taken 85 = .ok (.goto 5, 3) := by decide +kernel
theorem dX5_taken_88 : decode cX5_taken 88 = .ok (.bipush (-13), 2) := by decide +kernel
theorem dX5_taken_90 : decode cX5_taken 90 = .ok (.ireturn, 1) := by decide +kernel
theorem dX5_goesThroughOwn_0 : decode cX5_goesThroughOwn 0 = .ok (.iload_n 0, 1) := by decide +kernel
theorem dX5_goesThroughOwn_1 : decode cX5_goesThroughOwn 1 = .ok (.iconst 2, 1) := by decide +kernel
theorem dX5_goesThroughOwn_2 : decode cX5_goesThroughOwn 2 = .ok (.if_icmp .eq 12, 3) := by decide +kernel
theorem dX5_goesThroughOwn_5 : decode cX5_goesThroughOwn 5 = .ok (.iload_n 0, 1) := by decide +kernel
theorem dX5_goesThroughOwn_6 : decode cX5_goesThroughOwn 6 = .ok (.iconst 4, 1) := by decide +kernel
theorem dX5_goesThroughOwn_7 : decode cX5_goesThroughOwn 7 = .ok (.if_icmp .eq 7, 3) := by decide +kernel
theorem dX5_goesThroughOwn_10 : decode cX5_goesThroughOwn 10 = .ok (.iconst 1, 1) := by decide +kernel
theorem dX5_goesThroughOwn_11 : decode cX5_goesThroughOwn 11 = .ok (.goto 4, 3) := by decide +kernel
theorem dX5_goesThroughOwn_14 : decode cX5_goesThroughOwn 14 = .ok (.iconst 0, 1) := by decide +kernel
theorem dX5_goesThroughOwn_15 : decode cX5_goesThroughOwn 15 = .ok (.ireturn, 1) := by decide +kernel
theorem dX5_goesThroughNext_0 : decode cX5_goesThroughNext 0 = .ok (.iload_n 0, 1) := by decide +kernel
theorem dX5_goesThroughNext_1 : decode cX5_goesThroughNext 1 = .ok (.iconst 2, 1) := by decide +kernel
theorem dX5_goesThroughNext_2 : decode cX5_goesThroughNext 2 = .ok (.if_icmp .eq 8, 3) := by decide +kernel
theorem dX5_goesThroughNext_5 : decode cX5_goesThroughNext 5 = .ok (.iload_n 0, 1) := by decide +kernel
theorem dX5_goesThroughNext_6 : decode cX5_goesThroughNext 6 = .ok (.iconst 3, 1) := by decide +kernel
theorem dX5_goesThroughNext_7 : decode cX5_goesThroughNext 7 = .ok (.if_icmp .ne 7, 3) := by decide +kernel
theorem dX5_goesThroughNext_10 : decode cX5_goesThroughNext 10 = .ok (.iconst 1, 1) := by decide +kernel
theorem dX5_goesThroughNext_11 : decode cX5_goesThroughNext 11 = .ok (.goto 4, 3) := by decide +kernel
theorem dX5_goesThroughNext_14 : decode cX5_goesThroughNext 14 = .ok (.iconst 0, 1) := by decide +kernel
theorem dX5_goesThroughNext_15 : decode cX5_goesThroughNext 15 = .ok (.ireturn, 1) := by decide +kernel
theorem dX5_faceOf_0 : decode cX5_faceOf 0 = .ok (.iload_n 0, 1) := by decide +kernel
theorem dX5_faceOf_1 : decode cX5_faceOf 1 = .ok (.iconst 1, 1) := by decide +kernel
theorem dX5_faceOf_2 : decode cX5_faceOf 2 = .ok (.if_icmp .ne 7, 3) := by decide +kernel
theorem dX5_faceOf_5 : decode cX5_faceOf 5 = .ok (.iconst 1, 1) := by decide +kernel
theorem dX5_faceOf_6 : decode cX5_faceOf 6 = .ok (.goto 4, 3) := by decide +kernel
theorem dX5_faceOf_9 : decode cX5_faceOf 9 = .ok (.iconst 0, 1) := by decide +kernel
theorem dX5_faceOf_10 : decode cX5_faceOf 10 = .ok (.ireturn, 1) := by decide +kernel
theorem dX5_rubOf_0 : decode cX5_rubOf 0 = .ok (.iload_n 0, 1) := by decide +kernel
theorem dX5_rubOf_1 : decode cX5_rubOf 1 = .ok (.tableswitch 43 1 5 #[35, 43, 39, 43, 35], 35) := by decide +kernel
theorem dX5_rubOf_36 : decode cX5_rubOf 36 = .ok (.iload_n 1, 1) := by decide +kernel
theorem dX5_rubOf_37 : decode cX5_rubOf 37 = .ok (.iload_n 2, 1) := by decide +kernel
theorem dX5_rubOf_38 : decode cX5_rubOf 38 = .ok (.iadd, 1) := by decide +kernel
theorem dX5_rubOf_39 : decode cX5_rubOf 39 = .ok (.ireturn, 1) := by decide +kernel
theorem dX5_rubOf_40 : decode cX5_rubOf 40 = .ok (.iconst 2, 1) := by decide +kernel
theorem dX5_rubOf_41 : decode cX5_rubOf 41 = .ok (.iload_n 1, 1) := by decide +kernel
theorem dX5_rubOf_42 : decode cX5_rubOf 42 = .ok (.imul, 1) := by decide +kernel
theorem dX5_rubOf_43 : decode cX5_rubOf 43 = .ok (.ireturn, 1) := by decide +kernel
theorem dX5_rubOf_44 : decode cX5_rubOf 44 = .ok (.iload_n 1, 1) := by decide +kernel
theorem dX5_rubOf_45 : decode cX5_rubOf 45 = .ok (.ireturn, 1) := by decide +kernel
theorem dX5_isOne_0 : decode cX5_isOne 0 = .ok (.iload_n 0, 1) := by decide +kernel
theorem dX5_isOne_1 : decode cX5_isOne 1 = .ok (.iload_n 1, 1) := by decide +kernel
theorem dX5_isOne_2 : decode cX5_isOne 2 = .ok (.if_icmp .eq 27, 3) := by decide +kernel
theorem dX5_isOne_5 : decode cX5_isOne 5 = .ok (.iload_n 1, 1) := by decide +kernel
theorem dX5_isOne_6 : decode cX5_isOne 6 = .ok (.ifCond .eq 23, 3) := by decide +kernel
theorem dX5_isOne_9 : decode cX5_isOne 9 = .ok (.iload_n 0, 1) := by decide +kernel
theorem dX5_isOne_10 : decode cX5_isOne 10 = .ok (.iconst 3, 1) := by decide +kernel
theorem dX5_isOne_11 : decode cX5_isOne 11 = .ok (.if_icmp .ne 8, 3) := by decide +kernel
theorem dX5_isOne_14 : decode cX5_isOne 14 = .ok (.iload_n 1, 1) := by decide +kernel
theorem dX5_isOne_15 : decode cX5_isOne 15 = .ok (.iconst 2, 1) := by decide +kernel
theorem dX5_isOne_16 : decode cX5_isOne 16 = .ok (.if_icmp .eq 13, 3) := by decide +kernel
theorem dX5_isOne_19 : decode cX5_isOne 19 = .ok (.iload_n 0, 1) := by decide +kernel
theorem dX5_isOne_20 : decode cX5_isOne 20 = .ok (.iconst 5, 1) := by decide +kernel
theorem dX5_isOne_21 : decode cX5_isOne 21 = .ok (.if_icmp .ne 12, 3) := by decide +kernel
theorem dX5_isOne_24 : decode cX5_isOne 24 = .ok (.iload_n 1, 1) := by decide +kernel
theorem dX5_isOne_25 : decode cX5_isOne 25 = .ok (.iconst 1, 1) := by decide +kernel
theorem dX5_isOne_26 : decode cX5_isOne 26 = .ok (.if_icmp .ne 7, 3) := by decide +kernel
theorem dX5_isOne_29 : decode cX5_isOne 29 = .ok (.iconst 1, 1) := by decide +kernel
theorem dX5_isOne_30 : decode cX5_isOne 30 = .ok (.goto 4, 3) := by decide +kernel
theorem dX5_isOne_33 : decode cX5_isOne 33 = .ok (.iconst 0, 1) := by decide +kernel
theorem dX5_isOne_34 : decode cX5_isOne 34 = .ok (.ireturn, 1) := by decide +kernel
theorem dX5_within_0 : decode cX5_within 0 = .ok (.iload_n 0, 1) := by decide +kernel
theorem dX5_within_1 : decode cX5_within 1 = .ok (.iload_n 1, 1) := by decide +kernel
theorem dX5_within_2 : decode cX5_within 2 = .ok (.if_icmp .lt 12, 3) := by decide +kernel
theorem dX5_within_5 : decode cX5_within 5 = .ok (.iload_n 0, 1) := by decide +kernel
theorem dX5_within_6 : decode cX5_within 6 = .ok (.iload_n 2, 1) := by decide +kernel
theorem dX5_within_7 : decode cX5_within 7 = .ok (.if_icmp .gt 7, 3) := by decide +kernel
theorem dX5_within_10 : decode cX5_within 10 = .ok (.iconst 1, 1) := by decide +kernel
theorem dX5_within_11 : decode cX5_within 11 = .ok (.goto 4, 3) := by decide +kernel
theorem dX5_within_14 : decode cX5_within 14 = .ok (.iconst 0, 1) := by decide +kernel
theorem dX5_within_15 : decode cX5_within 15 = .ok (.ireturn, 1) := by decide +kernel
theorem dX5_isLoop_0 : decode cX5_isLoop 0 = .ok (.iload_n 0, 1) := by decide +kernel
theorem dX5_isLoop_1 : decode cX5_isLoop 1 = .ok (.iconst 0, 1) := by decide +kernel
theorem dX5_isLoop_2 : decode cX5_isLoop 2 = .ok (.bipush 47, 2) := by decide +kernel
theorem dX5_isLoop_4 : decode cX5_isLoop 4 = .ok (.invokestatic 97, 3) := by decide +kernel
theorem dX5_isLoop_7 : decode cX5_isLoop 7 = .ok (.ireturn, 1) := by decide +kernel
theorem dX5_isRow_0 : decode cX5_isRow 0 = .ok (.iload_n 0, 1) := by decide +kernel
theorem dX5_isRow_1 : decode cX5_isRow 1 = .ok (.iconst 0, 1) := by decide +kernel
theorem dX5_isRow_2 : decode cX5_isRow 2 = .ok (.bipush 7, 2) := by decide +kernel
theorem dX5_isRow_4 : decode cX5_isRow 4 = .ok (.invokestatic 97, 3) := by decide +kernel
theorem dX5_isRow_7 : decode cX5_isRow 7 = .ok (.ireturn, 1) := by decide +kernel
theorem dX5_isPull_0 : decode cX5_isPull 0 = .ok (.iload_n 0, 1) := by decide +kernel
theorem dX5_isPull_1 : decode cX5_isPull 1 = .ok (.iconst 0, 1) := by decide +kernel
theorem dX5_isPull_2 : decode cX5_isPull 2 = .ok (.bipush 99, 2) := by decide +kernel
theorem dX5_isPull_4 : decode cX5_isPull 4 = .ok (.invokestatic 97, 3) := by decide +kernel
theorem dX5_isPull_7 : decode cX5_isPull 7 = .ok (.ireturn, 1) := by decide +kernel
theorem dX5_isByte_0 : decode cX5_isByte 0 = .ok (.iload_n 0, 1) := by decide +kernel
theorem dX5_isByte_1 : decode cX5_isByte 1 = .ok (.iconst 0, 1) := by decide +kernel
theorem dX5_isByte_2 : decode cX5_isByte 2 = .ok (.sipush 255, 3) := by decide +kernel
theorem dX5_isByte_5 : decode cX5_isByte 5 = .ok (.invokestatic 97, 3) := by decide +kernel
theorem dX5_isByte_8 : decode cX5_isByte 8 = .ok (.ireturn, 1) := by decide +kernel
theorem dX5_isSheet_0 : decode cX5_isSheet 0 = .ok (.iload_n 0, 1) := by decide +kernel
theorem dX5_isSheet_1 : decode cX5_isSheet 1 = .ok (.iconst 0, 1) := by decide +kernel
theorem dX5_isSheet_2 : decode cX5_isSheet 2 = .ok (.iconst 3, 1) := by decide +kernel
theorem dX5_isSheet_3 : decode cX5_isSheet 3 = .ok (.invokestatic 97, 3) := by decide +kernel
theorem dX5_isSheet_6 : decode cX5_isSheet 6 = .ok (.ireturn, 1) := by decide +kernel
theorem dX5_isKnit_0 : decode cX5_isKnit 0 = .ok (.iload_n 0, 1) := by decide +kernel
theorem dX5_isKnit_1 : decode cX5_isKnit 1 = .ok (.iconst 0, 1) := by decide +kernel
theorem dX5_isKnit_2 : decode cX5_isKnit 2 = .ok (.iconst 5, 1) := by decide +kernel
theorem dX5_isKnit_3 : decode cX5_isKnit 3 = .ok (.invokestatic 97, 3) := by decide +kernel
theorem dX5_isKnit_6 : decode cX5_isKnit 6 = .ok (.ifCond .eq 17, 3) := by decide +kernel
theorem dX5_isKnit_9 : decode cX5_isKnit 9 = .ok (.iload_n 1, 1) := by decide +kernel
theorem dX5_isKnit_10 : decode cX5_isKnit 10 = .ok (.iconst 0, 1) := by decide +kernel
theorem dX5_isKnit_11 : decode cX5_isKnit 11 = .ok (.bipush 9, 2) := by decide +kernel
theorem dX5_isKnit_13 : decode cX5_isKnit 13 = .ok (.invokestatic 97, 3) := by decide +kernel
theorem dX5_isKnit_16 : decode cX5_isKnit 16 = .ok (.ifCond .eq 7, 3) := by decide +kernel
theorem dX5_isKnit_19 : decode cX5_isKnit 19 = .ok (.iconst 1, 1) := by decide +kernel
theorem dX5_isKnit_20 : decode cX5_isKnit 20 = .ok (.goto 4, 3) := by decide +kernel
theorem dX5_isKnit_23 : decode cX5_isKnit 23 = .ok (.iconst 0, 1) := by decide +kernel
theorem dX5_isKnit_24 : decode cX5_isKnit 24 = .ok (.ireturn, 1) := by decide +kernel
theorem dX5_bit_0 : decode cX5_bit 0 = .ok (.lconst 1, 1) := by decide +kernel
theorem dX5_bit_1 : decode cX5_bit 1 = .ok (.iload_n 0, 1) := by decide +kernel
theorem dX5_bit_2 : decode cX5_bit 2 = .ok (.lshl, 1) := by decide +kernel
theorem dX5_bit_3 : decode cX5_bit 3 = .ok (.lreturn, 1) := by decide +kernel
theorem dX5_hasBit_0 : decode cX5_hasBit 0 = .ok (.lload_n 0, 1) := by decide +kernel
theorem dX5_hasBit_1 : decode cX5_hasBit 1 = .ok (.iload_n 2, 1) := by decide +kernel
theorem dX5_hasBit_2 : decode cX5_hasBit 2 = .ok (.lshr, 1) := by decide +kernel
theorem dX5_hasBit_3 : decode cX5_hasBit 3 = .ok (.lconst 1, 1) := by decide +kernel
theorem dX5_hasBit_4 : decode cX5_hasBit 4 = .ok (.land, 1) := by decide +kernel
theorem dX5_hasBit_5 : decode cX5_hasBit 5 = .ok (.lconst 0, 1) := by decide +kernel
theorem dX5_hasBit_6 : decode cX5_hasBit 6 = .ok (.lcmp, 1) := by decide +kernel
theorem dX5_hasBit_7 : decode cX5_hasBit 7 = .ok (.ifCond .eq 7, 3) := by decide +kernel
theorem dX5_hasBit_10 : decode cX5_hasBit 10 = .ok (.iconst 1, 1) := by decide +kernel
theorem dX5_hasBit_11 : decode cX5_hasBit 11 = .ok (.goto 4, 3) := by decide +kernel
theorem dX5_hasBit_14 : decode cX5_hasBit 14 = .ok (.iconst 0, 1) := by decide +kernel
theorem dX5_hasBit_15 : decode cX5_hasBit 15 = .ok (.ireturn, 1) := by decide +kernel
theorem dX5_bounded_0 : decode cX5_bounded 0 = .ok (.iconst 0, 1) := by decide +kernel
theorem dX5_bounded_1 : decode cX5_bounded 1 = .ok (.iload_n 1, 1) := by decide +kernel
theorem dX5_bounded_2 : decode cX5_bounded 2 = .ok (.iload_n 0, 1) := by decide +kernel
theorem dX5_bounded_3 : decode cX5_bounded 3 = .ok (.invokestatic 272, 3) := by decide +kernel
theorem dX5_bounded_6 : decode cX5_bounded 6 = .ok (.invokestatic 277, 3) := by decide +kernel
theorem dX5_bounded_9 : decode cX5_bounded 9 = .ok (.ireturn, 1) := by decide +kernel
theorem dX5_commonDivisor_0 : decode cX5_commonDivisor 0 = .ok (.iload_n 1, 1) := by decide +kernel
theorem dX5_commonDivisor_1 : decode cX5_commonDivisor 1 = .ok (.istore_n 2, 1) := by decide +kernel
theorem dX5_commonDivisor_2 : decode cX5_commonDivisor 2 = .ok (.iload_n 2, 1) := by decide +kernel
theorem dX5_commonDivisor_3 : decode cX5_commonDivisor 3 = .ok (.iconst 1, 1) := by decide +kernel
theorem dX5_commonDivisor_4 : decode cX5_commonDivisor 4 = .ok (.if_icmp .le 23, 3) := by decide +kernel
theorem dX5_commonDivisor_7 : decode cX5_commonDivisor 7 = .ok (.iload_n 0, 1) := by decide +kernel
theorem dX5_commonDivisor_8 : decode cX5_commonDivisor 8 = .ok (.iload_n 2, 1) := by decide +kernel
theorem dX5_commonDivisor_9 : decode cX5_commonDivisor 9 = .ok (.irem, 1) := by decide +kernel
theorem dX5_commonDivisor_10 : decode cX5_commonDivisor 10 = .ok (.ifCond .ne 11, 3) := by decide +kernel
theorem dX5_commonDivisor_13 : decode cX5_commonDivisor 13 = .ok (.iload_n 1, 1) := by decide +kernel
theorem dX5_commonDivisor_14 : decode cX5_commonDivisor 14 = .ok (.iload_n 2, 1) := by decide +kernel
theorem dX5_commonDivisor_15 : decode cX5_commonDivisor 15 = .ok (.irem, 1) := by decide +kernel
theorem dX5_commonDivisor_16 : decode cX5_commonDivisor 16 = .ok (.ifCond .ne 5, 3) := by decide +kernel
theorem dX5_commonDivisor_19 : decode cX5_commonDivisor 19 = .ok (.iload_n 2, 1) := by decide +kernel
theorem dX5_commonDivisor_20 : decode cX5_commonDivisor 20 = .ok (.ireturn, 1) := by decide +kernel
theorem dX5_commonDivisor_21 : decode cX5_commonDivisor 21 = .ok (.iinc 2 (-1), 3) := by decide +kernel
theorem dX5_commonDivisor_24 : decode cX5_commonDivisor 24 = .ok (.goto (-22), 3) := by decide +kernel
theorem dX5_commonDivisor_27 : decode cX5_commonDivisor 27 = .ok (.iconst 1, 1) := by decide +kernel
theorem dX5_commonDivisor_28 : decode cX5_commonDivisor 28 = .ok (.ireturn, 1) := by decide +kernel
theorem dX5_law_0 : decode cX5_law 0 = .ok (.aload_n 0, 1) := by decide +kernel
theorem dX5_law_1 : decode cX5_law 1 = .ok (.getfield 28, 3) := by decide +kernel
theorem dX5_law_4 : decode cX5_law 4 = .ok (.aload_n 0, 1) := by decide +kernel
theorem dX5_law_5 : decode cX5_law 5 = .ok (.getfield 10, 3) := by decide +kernel
theorem dX5_law_8 : decode cX5_law 8 = .ok (.getfield 87, 3) := by decide +kernel
theorem dX5_law_11 : decode cX5_law 11 = .ok (.aaload, 1) := by decide +kernel
theorem dX5_law_12 : decode cX5_law 12 = .ok (.areturn, 1) := by decide +kernel
theorem dX5_readTape_0 : decode cX5_readTape 0 = .ok (.aload_n 0, 1) := by decide +kernel
theorem dX5_readTape_1 : decode cX5_readTape 1 = .ok (.getfield 83, 3) := by decide +kernel
theorem dX5_readTape_4 : decode cX5_readTape 4 = .ok (.bipush 6, 2) := by decide +kernel
theorem dX5_readTape_6 : decode cX5_readTape 6 = .ok (.if_icmp .lt 6, 3) := by decide +kernel
theorem dX5_readTape_9 : decode cX5_readTape 9 = .ok (.bipush (-4), 2) := by decide +kernel
theorem dX5_readTape_11 : decode cX5_readTape 11 = .ok (.ireturn, 1) := by decide +kernel
theorem dX5_readTape_12 : decode cX5_readTape 12 = .ok (.aload_n 0, 1) := by decide +kernel
theorem dX5_readTape_13 : decode cX5_readTape 13 = .ok (.getfield 22, 3) := by decide +kernel
theorem dX5_readTape_16 : decode cX5_readTape 16 = .ok (.aload_n 0, 1) := by decide +kernel
theorem dX5_readTape_17 : decode cX5_readTape 17 = .ok (.getfield 28, 3) := by decide +kernel
theorem dX5_readTape_20 : decode cX5_readTape 20 = .ok (.aload_n 0, 1) := by decide +kernel
theorem dX5_readTape_21 : decode cX5_readTape 21 = .ok (.getfield 83, 3) := by decide +kernel
theorem dX5_readTape_24 : decode cX5_readTape 24 = .ok (.aaload, 1) := by decide +kernel
theorem dX5_readTape_25 : decode cX5_readTape 25 = .ok (.invokevirtual 280, 3) := by decide +kernel
theorem dX5_readTape_28 : decode cX5_readTape 28 = .ok (.istore_n 1, 1) := by decide +kernel
theorem dX5_readTape_29 : decode cX5_readTape 29 = .ok (.aload_n 0, 1) := by decide +kernel
theorem dX5_readTape_30 : decode cX5_readTape 30 = .ok (.getfield 22, 3) := by decide +kernel
theorem dX5_readTape_33 : decode cX5_readTape 33 = .ok (.iconst 0, 1) := by decide +kernel
theorem dX5_readTape_34 : decode cX5_readTape 34 = .ok (.putfield 90, 3) := by decide +kernel
theorem dX5_readTape_37 : decode cX5_readTape 37 = .ok (.iload_n 1, 1) := by decide +kernel
theorem dX5_readTape_38 : decode cX5_readTape 38 = .ok (.ifCond .lt 8, 3) := by decide +kernel
theorem dX5_readTape_41 : decode cX5_readTape 41 = .ok (.bipush (-100), 2) := by decide +kernel
theorem dX5_readTape_43 : decode cX5_readTape 43 = .ok (.iload_n 1, 1) := by decide +kernel
theorem dX5_readTape_44 : decode cX5_readTape 44 = .ok (.isub, 1) := by decide +kernel
theorem dX5_readTape_45 : decode cX5_readTape 45 = .ok (.ireturn, 1) := by decide +kernel
theorem dX5_readTape_46 : decode cX5_readTape 46 = .ok (.aload_n 0, 1) := by decide +kernel
theorem dX5_readTape_47 : decode cX5_readTape 47 = .ok (.dup, 1) := by decide +kernel
theorem dX5_readTape_48 : decode cX5_readTape 48 = .ok (.getfield 83, 3) := by decide +kernel
theorem dX5_readTape_51 : decode cX5_readTape 51 = .ok (.dup_x1, 1) := by decide +kernel
theorem dX5_readTape_52 : decode cX5_readTape 52 = .ok (.iconst 1, 1) := by decide +kernel
theorem dX5_readTape_53 : decode cX5_readTape 53 = .ok (.iadd, 1) := by decide +kernel
theorem dX5_readTape_54 : decode cX5_readTape 54 = .ok (.putfield 83, 3) := by decide +kernel
theorem dX5_readTape_57 : decode cX5_readTape 57 = .ok (.ireturn, 1) := by decide +kernel
theorem dX5_drop_0 : decode cX5_drop 0 = .ok (.aload_n 0, 1) := by decide +kernel
theorem dX5_drop_1 : decode cX5_drop 1 = .ok (.getfield 35, 3) := by decide +kernel
theorem dX5_drop_4 : decode cX5_drop 4 = .ok (.aload_n 0, 1) := by decide +kernel
theorem dX5_drop_5 : decode cX5_drop 5 = .ok (.getfield 10, 3) := by decide +kernel
theorem dX5_drop_8 : decode cX5_drop 8 = .ok (.aload_n 0, 1) := by decide +kernel
theorem dX5_drop_9 : decode cX5_drop 9 = .ok (.invokevirtual 107, 3) := by decide +kernel
theorem dX5_drop_12 : decode cX5_drop 12 = .ok (.iload_n 1, 1) := by decide +kernel
theorem dX5_drop_13 : decode cX5_drop 13 = .ok (.invokestatic 143, 3) := by decide +kernel
theorem dX5_drop_16 : decode cX5_drop 16 = .ok (.lconst 0, 1) := by decide +kernel
theorem dX5_drop_17 : decode cX5_drop 17 = .ok (.iload_n 2, 1) := by decide +kernel
theorem dX5_drop_18 : decode cX5_drop 18 = .ok (.invokevirtual 182, 3) := by decide +kernel
theorem dX5_drop_21 : decode cX5_drop 21 = .ok (.ireturn, 1) := by decide +kernel
theorem dX5_dropPinned_0 : decode cX5_dropPinned 0 = .ok (.aload_n 0, 1) := by decide +kernel
theorem dX5_dropPinned_1 : decode cX5_dropPinned 1 = .ok (.getfield 35, 3) := by decide +kernel
theorem dX5_dropPinned_4 : decode cX5_dropPinned 4 = .ok (.aload_n 0, 1) := by decide +kernel
theorem dX5_dropPinned_5 : decode cX5_dropPinned 5 = .ok (.getfield 10, 3) := by decide +kernel
theorem dX5_dropPinned_8 : decode cX5_dropPinned 8 = .ok (.aload_n 0, 1) := by decide +kernel
theorem dX5_dropPinned_9 : decode cX5_dropPinned 9 = .ok (.invokevirtual 107, 3) := by decide +kernel
theorem dX5_dropPinned_12 : decode cX5_dropPinned 12 = .ok (.iload_n 1, 1) := by decide +kernel
theorem dX5_dropPinned_13 : decode cX5_dropPinned 13 = .ok (.invokestatic 143, 3) := by decide +kernel
theorem dX5_dropPinned_16 : decode cX5_dropPinned 16 = .ok (.lload_n 3, 1) := by decide +kernel
theorem dX5_dropPinned_17 : decode cX5_dropPinned 17 = .ok (.iload_n 2, 1) := by decide +kernel
theorem dX5_dropPinned_18 : decode cX5_dropPinned 18 = .ok (.invokevirtual 182, 3) := by decide +kernel
theorem dX5_dropPinned_21 : decode cX5_dropPinned 21 = .ok (.ireturn, 1) := by decide +kernel
theorem dX5_dropBoth_0 : decode cX5_dropBoth 0 = .ok (.iload_n 1, 1) := by decide +kernel
theorem dX5_dropBoth_1 : decode cX5_dropBoth 1 = .ok (.bipush 6, 2) := by decide +kernel
theorem dX5_dropBoth_3 : decode cX5_dropBoth 3 = .ok (.irem, 1) := by decide +kernel
theorem dX5_dropBoth_4 : decode cX5_dropBoth 4 = .ok (.iconst 2, 1) := by decide +kernel
theorem dX5_dropBoth_5 : decode cX5_dropBoth 5 = .ok (.idiv, 1) := by decide +kernel
theorem dX5_dropBoth_6 : decode cX5_dropBoth 6 = .ok (.iload_n 2, 1) := by decide +kernel
theorem dX5_dropBoth_7 : decode cX5_dropBoth 7 = .ok (.bipush 6, 2) := by decide +kernel
theorem dX5_dropBoth_9 : decode cX5_dropBoth 9 = .ok (.irem, 1) := by decide +kernel
theorem dX5_dropBoth_10 : decode cX5_dropBoth 10 = .ok (.iconst 2, 1) := by decide +kernel
theorem dX5_dropBoth_11 : decode cX5_dropBoth 11 = .ok (.idiv, 1) := by decide +kernel
theorem dX5_dropBoth_12 : decode cX5_dropBoth 12 = .ok (.if_icmp .eq 20, 3) := by decide +kernel
theorem dX5_dropBoth_15 : decode cX5_dropBoth 15 = .ok (.aload_n 0, 1) := by decide +kernel
theorem dX5_dropBoth_16 : decode cX5_dropBoth 16 = .ok (.getfield 45, 3) := by decide +kernel
theorem dX5_dropBoth_19 : decode cX5_dropBoth 19 = .ok (.iload_n 1, 1) := by decide +kernel
theorem dX5_dropBoth_20 : decode cX5_dropBoth 20 = .ok (.laload, 1) := by decide +kernel
theorem dX5_dropBoth_21 : decode cX5_dropBoth 21 = .ok (.aload_n 0, 1) := by decide +kernel
theorem dX5_dropBoth_22 : decode cX5_dropBoth 22 = .ok (.getfield 45, 3) := by decide +kernel
theorem dX5_dropBoth_25 : decode cX5_dropBoth 25 = .ok (.iload_n 2, 1) := by decide +kernel
theorem dX5_dropBoth_26 : decode cX5_dropBoth 26 = .ok (.laload, 1) := by decide +kernel
theorem dX5_dropBoth_27 : decode cX5_dropBoth 27 = .ok (.lor, 1) := by decide +kernel
theorem dX5_dropBoth_28 : decode cX5_dropBoth 28 = .ok (.invokestatic 74, 3) := by decide +kernel
theorem dX5_dropBoth_31 : decode cX5_dropBoth 31 = .ok (.ireturn, 1) := by decide +kernel
theorem dX5_dropBoth_32 : decode cX5_dropBoth 32 = .ok (.aload_n 0, 1) := by decide +kernel
theorem dX5_dropBoth_33 : decode cX5_dropBoth 33 = .ok (.getfield 35, 3) := by decide +kernel
theorem dX5_dropBoth_36 : decode cX5_dropBoth 36 = .ok (.aload_n 0, 1) := by decide +kernel
theorem dX5_dropBoth_37 : decode cX5_dropBoth 37 = .ok (.getfield 10, 3) := by decide +kernel
theorem dX5_dropBoth_40 : decode cX5_dropBoth 40 = .ok (.aload_n 0, 1) := by decide +kernel
theorem dX5_dropBoth_41 : decode cX5_dropBoth 41 = .ok (.invokevirtual 107, 3) := by decide +kernel
theorem dX5_dropBoth_44 : decode cX5_dropBoth 44 = .ok (.iload_n 1, 1) := by decide +kernel
theorem dX5_dropBoth_45 : decode cX5_dropBoth 45 = .ok (.invokestatic 143, 3) := by decide +kernel
theorem dX5_dropBoth_48 : decode cX5_dropBoth 48 = .ok (.iload_n 2, 1) := by decide +kernel
theorem dX5_dropBoth_49 : decode cX5_dropBoth 49 = .ok (.invokestatic 143, 3) := by decide +kernel
theorem dX5_dropBoth_52 : decode cX5_dropBoth 52 = .ok (.lor, 1) := by decide +kernel
theorem dX5_dropBoth_53 : decode cX5_dropBoth 53 = .ok (.lconst 0, 1) := by decide +kernel
theorem dX5_dropBoth_54 : decode cX5_dropBoth 54 = .ok (.iload_n 3, 1) := by decide +kernel
theorem dX5_dropBoth_55 : decode cX5_dropBoth 55 = .ok (.invokevirtual 182, 3) := by decide +kernel
theorem dX5_dropBoth_58 : decode cX5_dropBoth 58 = .ok (.ireturn, 1) := by decide +kernel
theorem dX5_lowestRow_0 : decode cX5_lowestRow 0 = .ok (.aload_n 0, 1) := by decide +kernel
theorem dX5_lowestRow_1 : decode cX5_lowestRow 1 = .ok (.getfield 35, 3) := by decide +kernel
theorem dX5_lowestRow_4 : decode cX5_lowestRow 4 = .ok (.getfield 167, 3) := by decide +kernel
theorem dX5_lowestRow_7 : decode cX5_lowestRow 7 = .ok (.lconst 0, 1) := by decide +kernel
theorem dX5_lowestRow_8 : decode cX5_lowestRow 8 = .ok (.lcmp, 1) := by decide +kernel
theorem dX5_lowestRow_9 : decode cX5_lowestRow 9 = .ok (.ifCond .ne 7, 3) := by decide +kernel
theorem dX5_lowestRow_12 : decode cX5_lowestRow 12 = .ok (.iconst (-1), 1) := by decide +kernel
theorem dX5_lowestRow_13 : decode cX5_lowestRow 13 = .ok (.goto 16, 3) := by decide +kernel
theorem dX5_lowestRow_16 : decode cX5_lowestRow 16 = .ok (.aload_n 0, 1) := by decide +kernel
theorem dX5_lowestRow_17 : decode cX5_lowestRow 17 = .ok (.getfield 35, 3) := by decide +kernel
theorem dX5_lowestRow_20 : decode cX5_lowestRow 20 = .ok (.getfield 167, 3) := by decide +kernel
theorem dX5_lowestRow_23 : decode cX5_lowestRow 23 = .ok (.invokestatic 284, 3) := by decide +kernel
theorem dX5_lowestRow_26 : decode cX5_lowestRow 26 = .ok (.bipush 6, 2) := by decide +kernel
theorem dX5_lowestRow_28 : decode cX5_lowestRow 28 = .ok (.idiv, 1) := by decide +kernel
theorem dX5_lowestRow_29 : decode cX5_lowestRow 29 = .ok (.ireturn, 1) := by decide +kernel
theorem dX5_together_0 : decode cX5_together 0 = .ok (.iconst 0, 1) := by decide +kernel
theorem dX5_together_1 : decode cX5_together 1 = .ok (.istore_n 2, 1) := by decide +kernel
theorem dX5_together_2 : decode cX5_together 2 = .ok (.iconst 0, 1) := by decide +kernel
theorem dX5_together_3 : decode cX5_together 3 = .ok (.istore_n 3, 1) := by decide +kernel
theorem dX5_together_4 : decode cX5_together 4 = .ok (.iload_n 3, 1) := by decide +kernel
theorem dX5_together_5 : decode cX5_together 5 = .ok (.bipush 48, 2) := by decide +kernel
theorem dX5_together_7 : decode cX5_together 7 = .ok (.if_icmp .ge 48, 3) := by decide +kernel
theorem dX5_together_10 : decode cX5_together 10 = .ok (.aload_n 0, 1) := by decide +kernel
theorem dX5_together_11 : decode cX5_together 11 = .ok (.getfield 35, 3) := by decide +kernel
theorem dX5_together_14 : decode cX5_together 14 = .ok (.getfield 167, 3) := by decide +kernel
theorem dX5_together_17 : decode cX5_together 17 = .ok (.iload_n 3, 1) := by decide +kernel
theorem dX5_together_18 : decode cX5_together 18 = .ok (.invokestatic 139, 3) := by decide +kernel
theorem dX5_together_21 : decode cX5_together 21 = .ok (.ifCond .eq 28, 3) := by decide +kernel
theorem dX5_together_24 : decode cX5_together 24 = .ok (.iload_n 2, 1) := by decide +kernel
theorem dX5_together_25 : decode cX5_together 25 = .ok (.aload_n 0, 1) := by decide +kernel
theorem dX5_together_26 : decode cX5_together 26 = .ok (.invokevirtual 107, 3) := by decide +kernel
theorem dX5_together_29 : decode cX5_together 29 = .ok (.iload_n 1, 1) := by decide +kernel
theorem dX5_together_30 : decode cX5_together 30 = .ok (.aload_n 0, 1) := by decide +kernel
theorem dX5_together_31 : decode cX5_together 31 = .ok (.getfield 10, 3) := by decide +kernel
theorem dX5_together_34 : decode cX5_together 34 = .ok (.iload_n 3, 1) := by decide +kernel
theorem dX5_together_35 : decode cX5_together 35 = .ok (.aload_n 0, 1) := by decide +kernel
theorem dX5_together_36 : decode cX5_together 36 = .ok (.getfield 35, 3) := by decide +kernel
theorem dX5_together_39 : decode cX5_together 39 = .ok (.getfield 179, 3) := by decide +kernel
theorem dX5_together_42 : decode cX5_together 42 = .ok (.iload_n 3, 1) := by decide +kernel
theorem dX5_together_43 : decode cX5_together 43 = .ok (.iaload, 1) := by decide +kernel
theorem dX5_together_44 : decode cX5_together 44 = .ok (.invokevirtual 110, 3) := by decide +kernel
theorem dX5_together_47 : decode cX5_together 47 = .ok (.iadd, 1) := by decide +kernel
theorem dX5_together_48 : decode cX5_together 48 = .ok (.istore_n 2, 1) := by decide +kernel
theorem dX5_together_49 : decode cX5_together 49 = .ok (.iinc 3 1, 3) := by decide +kernel
theorem dX5_together_52 : decode cX5_together 52 = .ok (.goto (-48), 3) := by decide +kernel
theorem dX5_together_55 : decode cX5_together 55 = .ok (.iload_n 2, 1) := by decide +kernel
theorem dX5_together_56 : decode cX5_together 56 = .ok (.ireturn, 1) := by decide +kernel
theorem dX5_hangingOn_0 : decode cX5_hangingOn 0 = .ok (.lconst 0, 1) := by decide +kernel
theorem dX5_hangingOn_1 : decode cX5_hangingOn 1 = .ok (.lstore_n 2, 1) := by decide +kernel
theorem dX5_hangingOn_2 : decode cX5_hangingOn 2 = .ok (.iload_n 1, 1) := by decide +kernel
theorem dX5_hangingOn_3 : decode cX5_hangingOn 3 = .ok (.iconst 1, 1) := by decide +kernel
theorem dX5_hangingOn_4 : decode cX5_hangingOn 4 = .ok (.iadd, 1) := by decide +kernel
theorem dX5_hangingOn_5 : decode cX5_hangingOn 5 = .ok (.istore 4, 2) := by decide +kernel
theorem dX5_hangingOn_7 : decode cX5_hangingOn 7 = .ok (.iload 4, 2) := by decide +kernel
theorem dX5_hangingOn_9 : decode cX5_hangingOn 9 = .ok (.bipush 48, 2) := by decide +kernel
theorem dX5_hangingOn_11 : decode cX5_hangingOn 11 = .ok (.if_icmp .ge 38, 3) := by decide +kernel
theorem dX5_hangingOn_14 : decode cX5_hangingOn 14 = .ok (.aload_n 0, 1) := by decide +kernel
theorem dX5_hangingOn_15 : decode cX5_hangingOn 15 = .ok (.getfield 10, 3) := by decide +kernel
theorem dX5_hangingOn_18 : decode cX5_hangingOn 18 = .ok (.iload 4, 2) := by decide +kernel
theorem dX5_hangingOn_20 : decode cX5_hangingOn 20 = .ok (.invokevirtual 287, 3) := by decide +kernel
theorem dX5_hangingOn_23 : decode cX5_hangingOn 23 = .ok (.lload_n 2, 1) := by decide +kernel
theorem dX5_hangingOn_24 : decode cX5_hangingOn 24 = .ok (.iload_n 1, 1) := by decide +kernel
theorem dX5_hangingOn_25 : decode cX5_hangingOn 25 = .ok (.invokestatic 143, 3) := by decide +kernel
theorem dX5_hangingOn_28 : decode cX5_hangingOn 28 = .ok (.lor, 1) := by decide +kernel
theorem dX5_hangingOn_29 : decode cX5_hangingOn 29 = .ok (.land, 1) := by decide +kernel
theorem dX5_hangingOn_30 : decode cX5_hangingOn 30 = .ok (.lconst 0, 1) := by decide +kernel
theorem dX5_hangingOn_31 : decode cX5_hangingOn 31 = .ok (.lcmp, 1) := by decide +kernel
theorem dX5_hangingOn_32 : decode cX5_hangingOn 32 = .ok (.ifCond .eq 11, 3) := by decide +kernel
theorem dX5_hangingOn_35 : decode cX5_hangingOn 35 = .ok (.lload_n 2, 1) := by decide +kernel
theorem dX5_hangingOn_36 : decode cX5_hangingOn 36 = .ok (.iload 4, 2) := by decide +kernel
theorem dX5_hangingOn_38 : decode cX5_hangingOn 38 = .ok (.invokestatic 143, 3) := by decide +kernel
theorem dX5_hangingOn_41 : decode cX5_hangingOn 41 = .ok (.lor, 1) := by decide +kernel
theorem dX5_hangingOn_42 : decode cX5_hangingOn 42 = .ok (.lstore_n 2, 1) := by decide +kernel
theorem dX5_hangingOn_43 : decode cX5_hangingOn 43 = .ok (.iinc 4 1, 3) := by decide +kernel
theorem dX5_hangingOn_46 : decode cX5_hangingOn 46 = .ok (.goto (-39), 3) := by decide +kernel
theorem dX5_hangingOn_49 : decode cX5_hangingOn 49 = .ok (.lload_n 2, 1) := by decide +kernel
theorem dX5_hangingOn_50 : decode cX5_hangingOn 50 = .ok (.lreturn, 1) := by decide +kernel
theorem dX5_bearing_0 : decode cX5_bearing 0 = .ok (.lconst 0, 1) := by decide +kernel
theorem dX5_bearing_1 : decode cX5_bearing 1 = .ok (.lstore_n 2, 1) := by decide +kernel
theorem dX5_bearing_2 : decode cX5_bearing 2 = .ok (.iload_n 1, 1) := by decide +kernel
theorem dX5_bearing_3 : decode cX5_bearing 3 = .ok (.iconst 1, 1) := by decide +kernel
theorem dX5_bearing_4 : decode cX5_bearing 4 = .ok (.isub, 1) := by decide +kernel
theorem dX5_bearing_5 : decode cX5_bearing 5 = .ok (.istore 4, 2) := by decide +kernel
theorem dX5_bearing_7 : decode cX5_bearing 7 = .ok (.iload 4, 2) := by decide +kernel
theorem dX5_bearing_9 : decode cX5_bearing 9 = .ok (.ifCond .lt 38, 3) := by decide +kernel
theorem dX5_bearing_12 : decode cX5_bearing 12 = .ok (.aload_n 0, 1) := by decide +kernel
theorem dX5_bearing_13 : decode cX5_bearing 13 = .ok (.getfield 10, 3) := by decide +kernel
theorem dX5_bearing_16 : decode cX5_bearing 16 = .ok (.iload 4, 2) := by decide +kernel
theorem dX5_bearing_18 : decode cX5_bearing 18 = .ok (.invokevirtual 151, 3) := by decide +kernel
theorem dX5_bearing_21 : decode cX5_bearing 21 = .ok (.lload_n 2, 1) := by decide +kernel
theorem dX5_bearing_22 : decode cX5_bearing 22 = .ok (.iload_n 1, 1) := by decide +kernel
theorem dX5_bearing_23 : decode cX5_bearing 23 = .ok (.invokestatic 143, 3) := by decide +kernel
theorem dX5_bearing_26 : decode cX5_bearing 26 = .ok (.lor, 1) := by decide +kernel
theorem dX5_bearing_27 : decode cX5_bearing 27 = .ok (.land, 1) := by decide +kernel
theorem dX5_bearing_28 : decode cX5_bearing 28 = .ok (.lconst 0, 1) := by decide +kernel
theorem dX5_bearing_29 : decode cX5_bearing 29 = .ok (.lcmp, 1) := by decide +kernel
theorem dX5_bearing_30 : decode cX5_bearing 30 = .ok (.ifCond .eq 11, 3) := by decide +kernel
theorem dX5_bearing_33 : decode cX5_bearing 33 = .ok (.lload_n 2, 1) := by decide +kernel
theorem dX5_bearing_34 : decode cX5_bearing 34 = .ok (.iload 4, 2) := by decide +kernel
theorem dX5_bearing_36 : decode cX5_bearing 36 = .ok (.invokestatic 143, 3) := by decide +kernel
theorem dX5_bearing_39 : decode cX5_bearing 39 = .ok (.lor, 1) := by decide +kernel
theorem dX5_bearing_40 : decode cX5_bearing 40 = .ok (.lstore_n 2, 1) := by decide +kernel
theorem dX5_bearing_41 : decode cX5_bearing 41 = .ok (.iinc 4 (-1), 3) := by decide +kernel
theorem dX5_bearing_44 : decode cX5_bearing 44 = .ok (.goto (-37), 3) := by decide +kernel
theorem dX5_bearing_47 : decode cX5_bearing 47 = .ok (.lload_n 2, 1) := by decide +kernel
theorem dX5_bearing_48 : decode cX5_bearing 48 = .ok (.lreturn, 1) := by decide +kernel
theorem dX5_borneOf_0 : decode cX5_borneOf 0 = .ok (.iconst 0, 1) := by decide +kernel
theorem dX5_borneOf_1 : decode cX5_borneOf 1 = .ok (.istore_n 2, 1) := by decide +kernel
theorem dX5_borneOf_2 : decode cX5_borneOf 2 = .ok (.iconst 0, 1) := by decide +kernel
theorem dX5_borneOf_3 : decode cX5_borneOf 3 = .ok (.istore_n 3, 1) := by decide +kernel
theorem dX5_borneOf_4 : decode cX5_borneOf 4 = .ok (.iload_n 3, 1) := by decide +kernel
theorem dX5_borneOf_5 : decode cX5_borneOf 5 = .ok (.bipush 6, 2) := by decide +kernel
theorem dX5_borneOf_7 : decode cX5_borneOf 7 = .ok (.if_icmp .ge 30, 3) := by decide +kernel
theorem dX5_borneOf_10 : decode cX5_borneOf 10 = .ok (.aload_n 0, 1) := by decide +kernel
theorem dX5_borneOf_11 : decode cX5_borneOf 11 = .ok (.getfield 10, 3) := by decide +kernel
theorem dX5_borneOf_14 : decode cX5_borneOf 14 = .ok (.iload_n 1, 1) := by decide +kernel
theorem dX5_borneOf_15 : decode cX5_borneOf 15 = .ok (.bipush 6, 2) := by decide +kernel
theorem dX5_borneOf_17 : decode cX5_borneOf 17 = .ok (.imul, 1) := by decide +kernel
theorem dX5_borneOf_18 : decode cX5_borneOf 18 = .ok (.iload_n 3, 1) := by decide +kernel
theorem dX5_borneOf_19 : decode cX5_borneOf 19 = .ok (.iadd, 1) := by decide +kernel
theorem dX5_borneOf_20 : decode cX5_borneOf 20 = .ok (.invokevirtual 151, 3) := by decide +kernel
theorem dX5_borneOf_23 : decode cX5_borneOf 23 = .ok (.lconst 0, 1) := by decide +kernel
theorem dX5_borneOf_24 : decode cX5_borneOf 24 = .ok (.lcmp, 1) := by decide +kernel
theorem dX5_borneOf_25 : decode cX5_borneOf 25 = .ok (.ifCond .eq 6, 3) := by decide +kernel
theorem dX5_borneOf_28 : decode cX5_borneOf 28 = .ok (.iinc 2 1, 3) := by decide +kernel
theorem dX5_borneOf_31 : decode cX5_borneOf 31 = .ok (.iinc 3 1, 3) := by decide +kernel
theorem dX5_borneOf_34 : decode cX5_borneOf 34 = .ok (.goto (-30), 3) := by decide +kernel
theorem dX5_borneOf_37 : decode cX5_borneOf 37 = .ok (.iload_n 2, 1) := by decide +kernel
theorem dX5_borneOf_38 : decode cX5_borneOf 38 = .ok (.ireturn, 1) := by decide +kernel
theorem dX5_placesUnder_0 : decode cX5_placesUnder 0 = .ok (.iload_n 1, 1) := by decide +kernel
theorem dX5_placesUnder_1 : decode cX5_placesUnder 1 = .ok (.ifCond .ne 5, 3) := by decide +kernel
theorem dX5_placesUnder_4 : decode cX5_placesUnder 4 = .ok (.iconst 0, 1) := by decide +kernel
theorem dX5_placesUnder_5 : decode cX5_placesUnder 5 = .ok (.ireturn, 1) := by decide +kernel
theorem dX5_placesUnder_6 : decode cX5_placesUnder 6 = .ok (.iconst 0, 1) := by decide +kernel
theorem dX5_placesUnder_7 : decode cX5_placesUnder 7 = .ok (.istore_n 2, 1) := by decide +kernel
theorem dX5_placesUnder_8 : decode cX5_placesUnder 8 = .ok (.iconst 0, 1) := by decide +kernel
theorem dX5_placesUnder_9 : decode cX5_placesUnder 9 = .ok (.istore_n 3, 1) := by decide +kernel
theorem dX5_placesUnder_10 : decode cX5_placesUnder 10 = .ok (.iload_n 3, 1) := by decide +kernel
theorem dX5_placesUnder_11 : decode cX5_placesUnder 11 = .ok (.bipush 6, 2) := by decide +kernel
theorem dX5_placesUnder_13 : decode cX5_placesUnder 13 = .ok (.if_icmp .ge 25, 3) := by decide +kernel
theorem dX5_placesUnder_16 : decode cX5_placesUnder 16 = .ok (.iload_n 2, 1) := by decide +kernel
theorem dX5_placesUnder_17 : decode cX5_placesUnder 17 = .ok (.aload_n 0, 1) := by decide +kernel
theorem dX5_placesUnder_18 : decode cX5_placesUnder 18 = .ok (.getfield 10, 3) := by decide +kernel
theorem dX5_placesUnder_21 : decode cX5_placesUnder 21 = .ok (.iload_n 1, 1) := by decide +kernel
theorem dX5_placesUnder_22 : decode cX5_placesUnder 22 = .ok (.bipush 6, 2) := by decide +kernel
theorem dX5_placesUnder_24 : decode cX5_placesUnder 24 = .ok (.imul, 1) := by decide +kernel
theorem dX5_placesUnder_25 : decode cX5_placesUnder 25 = .ok (.iload_n 3, 1) := by decide +kernel
theorem dX5_placesUnder_26 : decode cX5_placesUnder 26 = .ok (.iadd, 1) := by decide +kernel
theorem dX5_placesUnder_27 : decode cX5_placesUnder 27 = .ok (.invokevirtual 132, 3) := by decide +kernel
theorem dX5_placesUnder_30 : decode cX5_placesUnder 30 = .ok (.ior, 1) := by decide +kernel
theorem dX5_placesUnder_31 : decode cX5_placesUnder 31 = .ok (.istore_n 2, 1) := by decide +kernel
theorem dX5_placesUnder_32 : decode cX5_placesUnder 32 = .ok (.iinc 3 1, 3) := by decide +kernel
theorem dX5_placesUnder_35 : decode cX5_placesUnder 35 = .ok (.goto (-25), 3) := by decide +kernel
theorem dX5_placesUnder_38 : decode cX5_placesUnder 38 = .ok (.iload_n 2, 1) := by decide +kernel
theorem dX5_placesUnder_39 : decode cX5_placesUnder 39 = .ok (.invokestatic 290, 3) := by decide +kernel
theorem dX5_placesUnder_42 : decode cX5_placesUnder 42 = .ok (.ireturn, 1) := by decide +kernel
theorem dX5_unevenOf_0 : decode cX5_unevenOf 0 = .ok (.iconst 0, 1) := by decide +kernel
theorem dX5_unevenOf_1 : decode cX5_unevenOf 1 = .ok (.istore_n 2, 1) := by decide +kernel
theorem dX5_unevenOf_2 : decode cX5_unevenOf 2 = .ok (.iconst 0, 1) := by decide +kernel
theorem dX5_unevenOf_3 : decode cX5_unevenOf 3 = .ok (.istore_n 3, 1) := by decide +kernel
theorem dX5_unevenOf_4 : decode cX5_unevenOf 4 = .ok (.iload_n 3, 1) := by decide +kernel
theorem dX5_unevenOf_5 : decode cX5_unevenOf 5 = .ok (.bipush 6, 2) := by decide +kernel
theorem dX5_unevenOf_7 : decode cX5_unevenOf 7 = .ok (.if_icmp .ge 32, 3) := by decide +kernel
theorem dX5_unevenOf_10 : decode cX5_unevenOf 10 = .ok (.aload_n 0, 1) := by decide +kernel
theorem dX5_unevenOf_11 : decode cX5_unevenOf 11 = .ok (.getfield 10, 3) := by decide +kernel
theorem dX5_unevenOf_14 : decode cX5_unevenOf 14 = .ok (.iload_n 1, 1) := by decide +kernel
theorem dX5_unevenOf_15 : decode cX5_unevenOf 15 = .ok (.bipush 6, 2) := by decide +kernel
theorem dX5_unevenOf_17 : decode cX5_unevenOf 17 = .ok (.imul, 1) := by decide +kernel
theorem dX5_unevenOf_18 : decode cX5_unevenOf 18 = .ok (.iload_n 3, 1) := by decide +kernel
theorem dX5_unevenOf_19 : decode cX5_unevenOf 19 = .ok (.iadd, 1) := by decide +kernel
theorem dX5_unevenOf_20 : decode cX5_unevenOf 20 = .ok (.invokevirtual 132, 3) := by decide +kernel
theorem dX5_unevenOf_23 : decode cX5_unevenOf 23 = .ok (.invokestatic 290, 3) := by decide +kernel
theorem dX5_unevenOf_26 : decode cX5_unevenOf 26 = .ok (.iconst 1, 1) := by decide +kernel
theorem dX5_unevenOf_27 : decode cX5_unevenOf 27 = .ok (.if_icmp .eq 6, 3) := by decide +kernel
theorem dX5_unevenOf_30 : decode cX5_unevenOf 30 = .ok (.iinc 2 1, 3) := by decide +kernel
theorem dX5_unevenOf_33 : decode cX5_unevenOf 33 = .ok (.iinc 3 1, 3) := by decide +kernel
theorem dX5_unevenOf_36 : decode cX5_unevenOf 36 = .ok (.goto (-32), 3) := by decide +kernel
theorem dX5_unevenOf_39 : decode cX5_unevenOf 39 = .ok (.iload_n 2, 1) := by decide +kernel
theorem dX5_unevenOf_40 : decode cX5_unevenOf 40 = .ok (.ireturn, 1) := by decide +kernel
theorem dX5_pinnedPlaces_0 : decode cX5_pinnedPlaces 0 = .ok (.iconst 0, 1) := by decide +kernel
theorem dX5_pinnedPlaces_1 : decode cX5_pinnedPlaces 1 = .ok (.istore_n 2, 1) := by decide +kernel
theorem dX5_pinnedPlaces_2 : decode cX5_pinnedPlaces 2 = .ok (.iconst 0, 1) := by decide +kernel
theorem dX5_pinnedPlaces_3 : decode cX5_pinnedPlaces 3 = .ok (.istore_n 3, 1) := by decide +kernel
theorem dX5_pinnedPlaces_4 : decode cX5_pinnedPlaces 4 = .ok (.iload_n 3, 1) := by decide +kernel
theorem dX5_pinnedPlaces_5 : decode cX5_pinnedPlaces 5 = .ok (.bipush 6, 2) := by decide +kernel
theorem dX5_pinnedPlaces_7 : decode cX5_pinnedPlaces 7 = .ok (.if_icmp .ge 34, 3) := by decide +kernel
theorem dX5_pinnedPlaces_10 : decode cX5_pinnedPlaces 10 = .ok (.aload_n 0, 1) := by decide +kernel
theorem dX5_pinnedPlaces_11 : decode cX5_pinnedPlaces 11 = .ok (.getfield 10, 3) := by decide +kernel
theorem dX5_pinnedPlaces_14 : decode cX5_pinnedPlaces 14 = .ok (.getfield 70, 3) := by decide +kernel
theorem dX5_pinnedPlaces_17 : decode cX5_pinnedPlaces 17 = .ok (.iload_n 1, 1) := by decide +kernel
theorem dX5_pinnedPlaces_18 : decode cX5_pinnedPlaces 18 = .ok (.bipush 6, 2) := by decide +kernel
theorem dX5_pinnedPlaces_20 : decode cX5_pinnedPlaces 20 = .ok (.imul, 1) := by decide +kernel
theorem dX5_pinnedPlaces_21 : decode cX5_pinnedPlaces 21 = .ok (.iload_n 3, 1) := by decide +kernel
theorem dX5_pinnedPlaces_22 : decode cX5_pinnedPlaces 22 = .ok (.iadd, 1) := by decide +kernel
theorem dX5_pinnedPlaces_23 : decode cX5_pinnedPlaces 23 = .ok (.invokestatic 139, 3) := by decide +kernel
theorem dX5_pinnedPlaces_26 : decode cX5_pinnedPlaces 26 = .ok (.ifCond .eq 9, 3) := by decide +kernel
theorem dX5_pinnedPlaces_29 : decode cX5_pinnedPlaces 29 = .ok (.iload_n 2, 1) := by decide +kernel
theorem dX5_pinnedPlaces_30 : decode cX5_pinnedPlaces 30 = .ok (.iconst 1, 1) := by decide +kernel
theorem dX5_pinnedPlaces_31 : decode cX5_pinnedPlaces 31 = .ok (.iload_n 3, 1) := by decide +kernel
theorem dX5_pinnedPlaces_32 : decode cX5_pinnedPlaces 32 = .ok (.ishl, 1) := by decide +kernel
theorem dX5_pinnedPlaces_33 : decode cX5_pinnedPlaces 33 = .ok (.ior, 1) := by decide +kernel
theorem dX5_pinnedPlaces_34 : decode cX5_pinnedPlaces 34 = .ok (.istore_n 2, 1) := by decide +kernel
theorem dX5_pinnedPlaces_35 : decode cX5_pinnedPlaces 35 = .ok (.iinc 3 1, 3) := by decide +kernel
theorem dX5_pinnedPlaces_38 : decode cX5_pinnedPlaces 38 = .ok (.goto (-34), 3) := by decide +kernel
theorem dX5_pinnedPlaces_41 : decode cX5_pinnedPlaces 41 = .ok (.iload_n 2, 1) := by decide +kernel
theorem dX5_pinnedPlaces_42 : decode cX5_pinnedPlaces 42 = .ok (.ireturn, 1) := by decide +kernel
theorem dX5_isUnlikeThoseBeside_0 : decode cX5_isUnlikeThoseBeside 0 = .ok (.aload_n 0, 1) := by decide +kernel
theorem dX5_isUnlikeThoseBeside_1 : decode cX5_isUnlikeThoseBeside 1 = .ok (.getfield 10, 3) := by decide +kernel
theorem dX5_isUnlikeThoseBeside_4 : decode cX5_isUnlikeThoseBeside 4 = .ok (.getfield 118, 3) := by decide +kernel
theorem dX5_isUnlikeThoseBeside_7 : decode cX5_isUnlikeThoseBeside 7 = .ok (.iload_n 1, 1) := by decide +kernel
theorem dX5_isUnlikeThoseBeside_8 : decode cX5_isUnlikeThoseBeside 8 = .ok (.iaload, 1) := by decide +kernel
theorem dX5_isUnlikeThoseBeside_9 : decode cX5_isUnlikeThoseBeside 9 = .ok (.invokestatic 136, 3) := by decide +kernel
theorem dX5_isUnlikeThoseBeside_12 : decode cX5_isUnlikeThoseBeside 12 = .ok (.istore_n 2, 1) := by decide +kernel
theorem dX5_isUnlikeThoseBeside_13 : decode cX5_isUnlikeThoseBeside 13 = .ok (.iload_n 1, 1) := by decide +kernel
theorem dX5_isUnlikeThoseBeside_14 : decode cX5_isUnlikeThoseBeside 14 = .ok (.bipush 6, 2) := by decide +kernel
theorem dX5_isUnlikeThoseBeside_16 : decode cX5_isUnlikeThoseBeside 16 = .ok (.irem, 1) := by decide +kernel
theorem dX5_isUnlikeThoseBeside_17 : decode cX5_isUnlikeThoseBeside 17 = .ok (.istore_n 3, 1) := by decide +kernel
theorem dX5_isUnlikeThoseBeside_18 : decode cX5_isUnlikeThoseBeside 18 = .ok (.iload_n 3, 1) := by decide +kernel
theorem dX5_isUnlikeThoseBeside_19 : decode cX5_isUnlikeThoseBeside 19 = .ok (.ifCond .le 23, 3) := by decide +kernel
theorem dX5_isUnlikeThoseBeside_22 : decode cX5_isUnlikeThoseBeside 22 = .ok (.aload_n 0, 1) := by decide +kernel
theorem dX5_isUnlikeThoseBeside_23 : decode cX5_isUnlikeThoseBeside 23 = .ok (.getfield 10, 3) := by decide +kernel
theorem dX5_isUnlikeThoseBeside_26 : decode cX5_isUnlikeThoseBeside 26 = .ok (.getfield 118, 3) := by decide +kernel
theorem dX5_isUnlikeThoseBeside_29 : decode cX5_isUnlikeThoseBeside 29 = .ok (.iload_n 1, 1) := by decide +kernel
theorem dX5_isUnlikeThoseBeside_30 : decode cX5_isUnlikeThoseBeside 30 = .ok (.iconst 1, 1) := by decide +kernel
theorem dX5_isUnlikeThoseBeside_31 : decode cX5_isUnlikeThoseBeside 31 = .ok (.isub, 1) := by decide +kernel
theorem dX5_isUnlikeThoseBeside_32 : decode cX5_isUnlikeThoseBeside 32 = .ok (.iaload, 1) := by decide +kernel
theorem dX5_isUnlikeThoseBeside_33 : decode cX5_isUnlikeThoseBeside 33 = .ok (.invokestatic 136, 3) := by decide +kernel
theorem dX5_isUnlikeThoseBeside_36 : decode cX5_isUnlikeThoseBeside 36 = .ok (.iload_n 2, 1) := by decide +kernel
theorem dX5_isUnlikeThoseBeside_37 : decode cX5_isUnlikeThoseBeside 37 = .ok (.if_icmp .ne 5, 3) := by decide +kernel
theorem dX5_isUnlikeThoseBeside_40 : decode cX5_isUnlikeThoseBeside 40 = .ok (.iconst 0, 1) := by decide +kernel
theorem dX5_isUnlikeThoseBeside_41 : decode cX5_isUnlikeThoseBeside 41 = .ok (.ireturn, 1) := by decide +kernel
theorem dX5_isUnlikeThoseBeside_42 : decode cX5_isUnlikeThoseBeside 42 = .ok (.iload_n 3, 1) := by decide +kernel
theorem dX5_isUnlikeThoseBeside_43 : decode cX5_isUnlikeThoseBeside 43 = .ok (.iconst 5, 1) := by decide +kernel
theorem dX5_isUnlikeThoseBeside_44 : decode cX5_isUnlikeThoseBeside 44 = .ok (.if_icmp .eq 21, 3) := by decide +kernel
theorem dX5_isUnlikeThoseBeside_47 : decode cX5_isUnlikeThoseBeside 47 = .ok (.aload_n 0, 1) := by decide +kernel
theorem dX5_isUnlikeThoseBeside_48 : decode cX5_isUnlikeThoseBeside 48 = .ok (.getfield 10, 3) := by decide +kernel
theorem dX5_isUnlikeThoseBeside_51 : decode cX5_isUnlikeThoseBeside 51 = .ok (.getfield 118, 3) := by decide +kernel
theorem dX5_isUnlikeThoseBeside_54 : decode cX5_isUnlikeThoseBeside 54 = .ok (.iload_n 1, 1) := by decide +kernel
theorem dX5_isUnlikeThoseBeside_55 : decode cX5_isUnlikeThoseBeside 55 = .ok (.iconst 1, 1) := by decide +kernel
theorem dX5_isUnlikeThoseBeside_56 : decode cX5_isUnlikeThoseBeside 56 = .ok (.iadd, 1) := by decide +kernel
theorem dX5_isUnlikeThoseBeside_57 : decode cX5_isUnlikeThoseBeside 57 = .ok (.iaload, 1) := by decide +kernel
theorem dX5_isUnlikeThoseBeside_58 : decode cX5_isUnlikeThoseBeside 58 = .ok (.invokestatic 136, 3) := by decide +kernel
theorem dX5_isUnlikeThoseBeside_61 : decode cX5_isUnlikeThoseBeside 61 = .ok (.iload_n 2, 1) := by decide +kernel
theorem dX5_isUnlikeThoseBeside_62 : decode cX5_isUnlikeThoseBeside 62 = .ok (.if_icmp .eq 7, 3) := by decide +kernel
theorem dX5_isUnlikeThoseBeside_65 : decode cX5_isUnlikeThoseBeside 65 = .ok (.iconst 1, 1) := by decide +kernel
theorem dX5_isUnlikeThoseBeside_66 : decode cX5_isUnlikeThoseBeside 66 = .ok (.goto 4, 3) := by decide +kernel
theorem dX5_isUnlikeThoseBeside_69 : decode cX5_isUnlikeThoseBeside 69 = .ok (.iconst 0, 1) := by decide +kernel
theorem dX5_isUnlikeThoseBeside_70 : decode cX5_isUnlikeThoseBeside 70 = .ok (.ireturn, 1) := by decide +kernel
theorem dX5_missed_0 : decode cX5_missed 0 = .ok (.iload_n 1, 1) := by decide +kernel
theorem dX5_missed_1 : decode cX5_missed 1 = .ok (.iconst 1, 1) := by decide +kernel
theorem dX5_missed_2 : decode cX5_missed 2 = .ok (.iadd, 1) := by decide +kernel
theorem dX5_missed_3 : decode cX5_missed 3 = .ok (.i2l, 1) := by decide +kernel
theorem dX5_missed_4 : decode cX5_missed 4 = .ok (.ldc2_w 294, 3) := by decide +kernel
theorem dX5_missed_7 : decode cX5_missed 7 = .ok (.lmul, 1) := by decide +kernel
theorem dX5_missed_8 : decode cX5_missed 8 = .ok (.ldc2_w 296, 3) := by decide +kernel
theorem dX5_missed_11 : decode cX5_missed 11 = .ok (.lrem, 1) := by decide +kernel
theorem dX5_missed_12 : decode cX5_missed 12 = .ok (.lstore_n 3, 1) := by decide +kernel
theorem dX5_missed_13 : decode cX5_missed 13 = .ok (.iconst 0, 1) := by decide +kernel
theorem dX5_missed_14 : decode cX5_missed 14 = .ok (.istore 5, 2) := by decide +kernel
theorem dX5_missed_16 : decode cX5_missed 16 = .ok (.iconst 0, 1) := by decide +kernel
theorem dX5_missed_17 : decode cX5_missed 17 = .ok (.istore 6, 2) := by decide +kernel
theorem dX5_missed_19 : decode cX5_missed 19 = .ok (.iload 6, 2) := by decide +kernel
theorem dX5_missed_21 : decode cX5_missed 21 = .ok (.bipush 48, 2) := by decide +kernel
theorem dX5_missed_23 : decode cX5_missed 23 = .ok (.if_icmp .ge 48, 3) := by decide +kernel
theorem dX5_missed_26 : decode cX5_missed 26 = .ok (.aload_n 0, 1) := by decide +kernel
theorem dX5_missed_27 : decode cX5_missed 27 = .ok (.getfield 35, 3) := by decide +kernel
theorem dX5_missed_30 : decode cX5_missed 30 = .ok (.getfield 167, 3) := by decide +kernel
theorem dX5_missed_33 : decode cX5_missed 33 = .ok (.iload 6, 2) := by decide +kernel
theorem dX5_missed_35 : decode cX5_missed 35 = .ok (.invokestatic 139, 3) := by decide +kernel
theorem dX5_missed_38 : decode cX5_missed 38 = .ok (.ifCond .eq 27, 3) := by decide +kernel
theorem dX5_missed_41 : decode cX5_missed 41 = .ok (.lload_n 3, 1) := by decide +kernel
theorem dX5_missed_42 : decode cX5_missed 42 = .ok (.ldc2_w 298, 3) := by decide +kernel
theorem dX5_missed_45 : decode cX5_missed 45 = .ok (.lrem, 1) := by decide +kernel
theorem dX5_missed_46 : decode cX5_missed 46 = .ok (.iload_n 2, 1) := by decide +kernel
theorem dX5_missed_47 : decode cX5_missed 47 = .ok (.i2l, 1) := by decide +kernel
theorem dX5_missed_48 : decode cX5_missed 48 = .ok (.lcmp, 1) := by decide +kernel
theorem dX5_missed_49 : decode cX5_missed 49 = .ok (.ifCond .ge 6, 3) := by decide +kernel
theorem dX5_missed_52 : decode cX5_missed 52 = .ok (.iinc 5 1, 3) := by decide +kernel
theorem dX5_missed_55 : decode cX5_missed 55 = .ok (.lload_n 3, 1) := by decide +kernel
theorem dX5_missed_56 : decode cX5_missed 56 = .ok (.ldc2_w 294, 3) := by decide +kernel
theorem dX5_missed_59 : decode cX5_missed 59 = .ok (.lmul, 1) := by decide +kernel
theorem dX5_missed_60 : decode cX5_missed 60 = .ok (.ldc2_w 296, 3) := by decide +kernel
theorem dX5_missed_63 : decode cX5_missed 63 = .ok (.lrem, 1) := by decide +kernel
theorem dX5_missed_64 : decode cX5_missed 64 = .ok (.lstore_n 3, 1) := by decide +kernel
theorem dX5_missed_65 : decode cX5_missed 65 = .ok (.iinc 6 1, 3) := by decide +kernel
theorem dX5_missed_68 : decode cX5_missed 68 = .ok (.goto (-49), 3) := by decide +kernel
theorem dX5_missed_71 : decode cX5_missed 71 = .ok (.iload 5, 2) := by decide +kernel
theorem dX5_missed_73 : decode cX5_missed 73 = .ok (.ireturn, 1) := by decide +kernel
theorem dX5_sheetRefusal_0 : decode cX5_sheetRefusal 0 = .ok (.iload_n 1, 1) := by decide +kernel
theorem dX5_sheetRefusal_1 : decode cX5_sheetRefusal 1 = .ok (.invokestatic 222, 3) := by decide +kernel
theorem dX5_sheetRefusal_4 : decode cX5_sheetRefusal 4 = .ok (.ifCond .ne 6, 3) := by decide +kernel
theorem dX5_sheetRefusal_7 : decode cX5_sheetRefusal 7 = .ok (.bipush (-2), 2) := by decide +kernel
theorem dX5_sheetRefusal_9 : decode cX5_sheetRefusal 9 = .ok (.ireturn, 1) := by decide +kernel
theorem dX5_sheetRefusal_10 : decode cX5_sheetRefusal 10 = .ok (.aload_n 0, 1) := by decide +kernel
theorem dX5_sheetRefusal_11 : decode cX5_sheetRefusal 11 = .ok (.getfield 41, 3) := by decide +kernel
theorem dX5_sheetRefusal_14 : decode cX5_sheetRefusal 14 = .ok (.iload_n 1, 1) := by decide +kernel
theorem dX5_sheetRefusal_15 : decode cX5_sheetRefusal 15 = .ok (.aaload, 1) := by decide +kernel
theorem dX5_sheetRefusal_16 : decode cX5_sheetRefusal 16 = .ok (.invokevirtual 246, 3) := by decide +kernel
theorem dX5_sheetRefusal_19 : decode cX5_sheetRefusal 19 = .ok (.ifCond .eq 6, 3) := by decide +kernel
theorem dX5_sheetRefusal_22 : decode cX5_sheetRefusal 22 = .ok (.bipush (-11), 2) := by decide +kernel
theorem dX5_sheetRefusal_24 : decode cX5_sheetRefusal 24 = .ok (.ireturn, 1) := by decide +kernel
theorem dX5_sheetRefusal_25 : decode cX5_sheetRefusal 25 = .ok (.aload_n 0, 1) := by decide +kernel
theorem dX5_sheetRefusal_26 : decode cX5_sheetRefusal 26 = .ok (.getfield 41, 3) := by decide +kernel
theorem dX5_sheetRefusal_29 : decode cX5_sheetRefusal 29 = .ok (.iload_n 1, 1) := by decide +kernel
theorem dX5_sheetRefusal_30 : decode cX5_sheetRefusal 30 = .ok (.aaload, 1) := by decide +kernel
theorem dX5_sheetRefusal_31 : decode cX5_sheetRefusal 31 = .ok (.getfield 250, 3) := by decide +kernel
theorem dX5_sheetRefusal_34 : decode cX5_sheetRefusal 34 = .ok (.iload_n 2, 1) := by decide +kernel
theorem dX5_sheetRefusal_35 : decode cX5_sheetRefusal 35 = .ok (.if_icmp .ne 7, 3) := by decide +kernel
theorem dX5_sheetRefusal_38 : decode cX5_sheetRefusal 38 = .ok (.iconst 0, 1) := by decide +kernel
theorem dX5_sheetRefusal_39 : decode cX5_sheetRefusal 39 = .ok (.goto 5, 3) := by decide +kernel
theorem dX5_sheetRefusal_42 : decode cX5_sheetRefusal 42 = .ok (.bipush (-2), 2) := by decide +kernel
theorem dX5_sheetRefusal_44 : decode cX5_sheetRefusal 44 = .ok (.ireturn, 1) := by decide +kernel
theorem dX5_ragRefusal_0 : decode cX5_ragRefusal 0 = .ok (.aload_n 0, 1) := by decide +kernel
theorem dX5_ragRefusal_1 : decode cX5_ragRefusal 1 = .ok (.iload_n 1, 1) := by decide +kernel
theorem dX5_ragRefusal_2 : decode cX5_ragRefusal 2 = .ok (.bipush 48, 2) := by decide +kernel
theorem dX5_ragRefusal_4 : decode cX5_ragRefusal 4 = .ok (.invokevirtual 199, 3) := by decide +kernel
theorem dX5_ragRefusal_7 : decode cX5_ragRefusal 7 = .ok (.istore_n 3, 1) := by decide +kernel
theorem dX5_ragRefusal_8 : decode cX5_ragRefusal 8 = .ok (.iload_n 3, 1) := by decide +kernel
theorem dX5_ragRefusal_9 : decode cX5_ragRefusal 9 = .ok (.ifCond .eq 5, 3) := by decide +kernel
theorem dX5_ragRefusal_12 : decode cX5_ragRefusal 12 = .ok (.iload_n 3, 1) := by decide +kernel
theorem dX5_ragRefusal_13 : decode cX5_ragRefusal 13 = .ok (.ireturn, 1) := by decide +kernel
theorem dX5_ragRefusal_14 : decode cX5_ragRefusal 14 = .ok (.iload_n 2, 1) := by decide +kernel
theorem dX5_ragRefusal_15 : decode cX5_ragRefusal 15 = .ok (.invokestatic 101, 3) := by decide +kernel
theorem dX5_ragRefusal_18 : decode cX5_ragRefusal 18 = .ok (.ifCond .eq 7, 3) := by decide +kernel
theorem dX5_ragRefusal_21 : decode cX5_ragRefusal 21 = .ok (.iconst 0, 1) := by decide +kernel
theorem dX5_ragRefusal_22 : decode cX5_ragRefusal 22 = .ok (.goto 5, 3) := by decide +kernel
theorem dX5_ragRefusal_25 : decode cX5_ragRefusal 25 = .ok (.bipush (-5), 2) := by decide +kernel
theorem dX5_ragRefusal_27 : decode cX5_ragRefusal 27 = .ok (.ireturn, 1) := by decide +kernel
theorem dJ6_numberOfTrailingZeros_0f7a4_0 : decode cJ6_numberOfTrailingZeros_0f7a4 0 = .ok (.iload_n 0, 1) := by decide +kernel
theorem dJ6_numberOfTrailingZeros_0f7a4_1 : decode cJ6_numberOfTrailingZeros_0f7a4 1 = .ok (.iconst (-1), 1) := by decide +kernel
theorem dJ6_numberOfTrailingZeros_0f7a4_2 : decode cJ6_numberOfTrailingZeros_0f7a4 2 = .ok (.ixor, 1) := by decide +kernel
theorem dJ6_numberOfTrailingZeros_0f7a4_3 : decode cJ6_numberOfTrailingZeros_0f7a4 3 = .ok (.iload_n 0, 1) := by decide +kernel
theorem dJ6_numberOfTrailingZeros_0f7a4_4 : decode cJ6_numberOfTrailingZeros_0f7a4 4 = .ok (.iconst 1, 1) := by decide +kernel
theorem dJ6_numberOfTrailingZeros_0f7a4_5 : decode cJ6_numberOfTrailingZeros_0f7a4 5 = .ok (.isub, 1) := by decide +kernel
theorem dJ6_numberOfTrailingZeros_0f7a4_6 : decode cJ6_numberOfTrailingZeros_0f7a4 6 = .ok (.iand, 1) := by decide +kernel
theorem dJ6_numberOfTrailingZeros_0f7a4_7 : decode cJ6_numberOfTrailingZeros_0f7a4 7 = .ok (.istore_n 0, 1) := by decide +kernel
theorem dJ6_numberOfTrailingZeros_0f7a4_8 : decode cJ6_numberOfTrailingZeros_0f7a4 8 = .ok (.iload_n 0, 1) := by decide +kernel
theorem dJ6_numberOfTrailingZeros_0f7a4_9 : decode cJ6_numberOfTrailingZeros_0f7a4 9 = .ok (.ifCond .gt 8, 3) := by decide +kernel
theorem dJ6_numberOfTrailingZeros_0f7a4_12 : decode cJ6_numberOfTrailingZeros_0f7a4 12 = .ok (.iload_n 0, 1) := by decide +kernel
theorem dJ6_numberOfTrailingZeros_0f7a4_13 : decode cJ6_numberOfTrailingZeros_0f7a4 13 = .ok (.bipush 32, 2) := by decide +kernel
theorem dJ6_numberOfTrailingZeros_0f7a4_15 : decode cJ6_numberOfTrailingZeros_0f7a4 15 = .ok (.iand, 1) := by decide +kernel
theorem dJ6_numberOfTrailingZeros_0f7a4_16 : decode cJ6_numberOfTrailingZeros_0f7a4 16 = .ok (.ireturn, 1) := by decide +kernel
theorem dJ6_numberOfTrailingZeros_0f7a4_17 : decode cJ6_numberOfTrailingZeros_0f7a4 17 = .ok (.iconst 1, 1) := by decide +kernel
theorem dJ6_numberOfTrailingZeros_0f7a4_18 : decode cJ6_numberOfTrailingZeros_0f7a4 18 = .ok (.istore_n 1, 1) := by decide +kernel
theorem dJ6_numberOfTrailingZeros_0f7a4_19 : decode cJ6_numberOfTrailingZeros_0f7a4 19 = .ok (.iload_n 0, 1) := by decide +kernel
theorem dJ6_numberOfTrailingZeros_0f7a4_20 : decode cJ6_numberOfTrailingZeros_0f7a4 20 = .ok (.ldc_w 264, 3) := by decide +kernel
theorem dJ6_numberOfTrailingZeros_0f7a4_23 : decode cJ6_numberOfTrailingZeros_0f7a4 23 = .ok (.if_icmp .le 11, 3) := by decide +kernel
theorem dJ6_numberOfTrailingZeros_0f7a4_26 : decode cJ6_numberOfTrailingZeros_0f7a4 26 = .ok (.iinc 1 16, 3) := by decide +kernel
theorem dJ6_numberOfTrailingZeros_0f7a4_29 : decode cJ6_numberOfTrailingZeros_0f7a4 29 = .ok (.iload_n 0, 1) := by decide +kernel
theorem dJ6_numberOfTrailingZeros_0f7a4_30 : decode cJ6_numberOfTrailingZeros_0f7a4 30 = .ok (.bipush 16, 2) := by decide +kernel
theorem dJ6_numberOfTrailingZeros_0f7a4_32 : decode cJ6_numberOfTrailingZeros_0f7a4 32 = .ok (.iushr, 1) := by decide +kernel
theorem dJ6_numberOfTrailingZeros_0f7a4_33 : decode cJ6_numberOfTrailingZeros_0f7a4 33 = .ok (.istore_n 0, 1) := by decide +kernel
theorem dJ6_numberOfTrailingZeros_0f7a4_34 : decode cJ6_numberOfTrailingZeros_0f7a4 34 = .ok (.iload_n 0, 1) := by decide +kernel
theorem dJ6_numberOfTrailingZeros_0f7a4_35 : decode cJ6_numberOfTrailingZeros_0f7a4 35 = .ok (.sipush 256, 3) := by decide +kernel
theorem dJ6_numberOfTrailingZeros_0f7a4_38 : decode cJ6_numberOfTrailingZeros_0f7a4 38 = .ok (.if_icmp .le 11, 3) := by decide +kernel
theorem dJ6_numberOfTrailingZeros_0f7a4_41 : decode cJ6_numberOfTrailingZeros_0f7a4 41 = .ok (.iinc 1 8, 3) := by decide +kernel
theorem dJ6_numberOfTrailingZeros_0f7a4_44 : decode cJ6_numberOfTrailingZeros_0f7a4 44 = .ok (.iload_n 0, 1) := by decide +kernel
theorem dJ6_numberOfTrailingZeros_0f7a4_45 : decode cJ6_numberOfTrailingZeros_0f7a4 45 = .ok (.bipush 8, 2) := by decide +kernel
theorem dJ6_numberOfTrailingZeros_0f7a4_47 : decode cJ6_numberOfTrailingZeros_0f7a4 47 = .ok (.iushr, 1) := by decide +kernel
theorem dJ6_numberOfTrailingZeros_0f7a4_48 : decode cJ6_numberOfTrailingZeros_0f7a4 48 = .ok (.istore_n 0, 1) := by decide +kernel
theorem dJ6_numberOfTrailingZeros_0f7a4_49 : decode cJ6_numberOfTrailingZeros_0f7a4 49 = .ok (.iload_n 0, 1) := by decide +kernel
theorem dJ6_numberOfTrailingZeros_0f7a4_50 : decode cJ6_numberOfTrailingZeros_0f7a4 50 = .ok (.bipush 16, 2) := by decide +kernel
theorem dJ6_numberOfTrailingZeros_0f7a4_52 : decode cJ6_numberOfTrailingZeros_0f7a4 52 = .ok (.if_icmp .le 10, 3) := by decide +kernel
theorem dJ6_numberOfTrailingZeros_0f7a4_55 : decode cJ6_numberOfTrailingZeros_0f7a4 55 = .ok (.iinc 1 4, 3) := by decide +kernel
theorem dJ6_numberOfTrailingZeros_0f7a4_58 : decode cJ6_numberOfTrailingZeros_0f7a4 58 = .ok (.iload_n 0, 1) := by decide +kernel
theorem dJ6_numberOfTrailingZeros_0f7a4_59 : decode cJ6_numberOfTrailingZeros_0f7a4 59 = .ok (.iconst 4, 1) := by decide +kernel
theorem dJ6_numberOfTrailingZeros_0f7a4_60 : decode cJ6_numberOfTrailingZeros_0f7a4 60 = .ok (.iushr, 1) := by decide +kernel
theorem dJ6_numberOfTrailingZeros_0f7a4_61 : decode cJ6_numberOfTrailingZeros_0f7a4 61 = .ok (.istore_n 0, 1) := by decide +kernel
theorem dJ6_numberOfTrailingZeros_0f7a4_62 : decode cJ6_numberOfTrailingZeros_0f7a4 62 = .ok (.iload_n 0, 1) := by decide +kernel
theorem dJ6_numberOfTrailingZeros_0f7a4_63 : decode cJ6_numberOfTrailingZeros_0f7a4 63 = .ok (.iconst 4, 1) := by decide +kernel
theorem dJ6_numberOfTrailingZeros_0f7a4_64 : decode cJ6_numberOfTrailingZeros_0f7a4 64 = .ok (.if_icmp .le 10, 3) := by decide +kernel
theorem dJ6_numberOfTrailingZeros_0f7a4_67 : decode cJ6_numberOfTrailingZeros_0f7a4 67 = .ok (.iinc 1 2, 3) := by decide +kernel
theorem dJ6_numberOfTrailingZeros_0f7a4_70 : decode cJ6_numberOfTrailingZeros_0f7a4 70 = .ok (.iload_n 0, 1) := by decide +kernel
theorem dJ6_numberOfTrailingZeros_0f7a4_71 : decode cJ6_numberOfTrailingZeros_0f7a4 71 = .ok (.iconst 2, 1) := by decide +kernel
theorem dJ6_numberOfTrailingZeros_0f7a4_72 : decode cJ6_numberOfTrailingZeros_0f7a4 72 = .ok (.iushr, 1) := by decide +kernel
theorem dJ6_numberOfTrailingZeros_0f7a4_73 : decode cJ6_numberOfTrailingZeros_0f7a4 73 = .ok (.istore_n 0, 1) := by decide +kernel
theorem dJ6_numberOfTrailingZeros_0f7a4_74 : decode cJ6_numberOfTrailingZeros_0f7a4 74 = .ok (.iload_n 1, 1) := by decide +kernel
theorem dJ6_numberOfTrailingZeros_0f7a4_75 : decode cJ6_numberOfTrailingZeros_0f7a4 75 = .ok (.iload_n 0, 1) := by decide +kernel
theorem dJ6_numberOfTrailingZeros_0f7a4_76 : decode cJ6_numberOfTrailingZeros_0f7a4 76 = .ok (.iconst 1, 1) := by decide +kernel
theorem dJ6_numberOfTrailingZeros_0f7a4_77 : decode cJ6_numberOfTrailingZeros_0f7a4 77 = .ok (.iushr, 1) := by decide +kernel
theorem dJ6_numberOfTrailingZeros_0f7a4_78 : decode cJ6_numberOfTrailingZeros_0f7a4 78 = .ok (.iadd, 1) := by decide +kernel
theorem dJ6_numberOfTrailingZeros_0f7a4_79 : decode cJ6_numberOfTrailingZeros_0f7a4 79 = .ok (.ireturn, 1) := by decide +kernel
theorem dJ6_bitCount_0f7a4_0 : decode cJ6_bitCount_0f7a4 0 = .ok (.iload_n 0, 1) := by decide +kernel
theorem dJ6_bitCount_0f7a4_1 : decode cJ6_bitCount_0f7a4 1 = .ok (.iload_n 0, 1) := by decide +kernel
theorem dJ6_bitCount_0f7a4_2 : decode cJ6_bitCount_0f7a4 2 = .ok (.iconst 1, 1) := by decide +kernel
theorem dJ6_bitCount_0f7a4_3 : decode cJ6_bitCount_0f7a4 3 = .ok (.iushr, 1) := by decide +kernel
theorem dJ6_bitCount_0f7a4_4 : decode cJ6_bitCount_0f7a4 4 = .ok (.ldc_w 265, 3) := by decide +kernel
theorem dJ6_bitCount_0f7a4_7 : decode cJ6_bitCount_0f7a4 7 = .ok (.iand, 1) := by decide +kernel
theorem dJ6_bitCount_0f7a4_8 : decode cJ6_bitCount_0f7a4 8 = .ok (.isub, 1) := by decide +kernel
theorem dJ6_bitCount_0f7a4_9 : decode cJ6_bitCount_0f7a4 9 = .ok (.istore_n 0, 1) := by decide +kernel
theorem dJ6_bitCount_0f7a4_10 : decode cJ6_bitCount_0f7a4 10 = .ok (.iload_n 0, 1) := by decide +kernel
theorem dJ6_bitCount_0f7a4_11 : decode cJ6_bitCount_0f7a4 11 = .ok (.ldc_w 266, 3) := by decide +kernel
theorem dJ6_bitCount_0f7a4_14 : decode cJ6_bitCount_0f7a4 14 = .ok (.iand, 1) := by decide +kernel
theorem dJ6_bitCount_0f7a4_15 : decode cJ6_bitCount_0f7a4 15 = .ok (.iload_n 0, 1) := by decide +kernel
theorem dJ6_bitCount_0f7a4_16 : decode cJ6_bitCount_0f7a4 16 = .ok (.iconst 2, 1) := by decide +kernel
theorem dJ6_bitCount_0f7a4_17 : decode cJ6_bitCount_0f7a4 17 = .ok (.iushr, 1) := by decide +kernel
theorem dJ6_bitCount_0f7a4_18 : decode cJ6_bitCount_0f7a4 18 = .ok (.ldc_w 266, 3) := by decide +kernel
theorem dJ6_bitCount_0f7a4_21 : decode cJ6_bitCount_0f7a4 21 = .ok (.iand, 1) := by decide +kernel
theorem dJ6_bitCount_0f7a4_22 : decode cJ6_bitCount_0f7a4 22 = .ok (.iadd, 1) := by decide +kernel
theorem dJ6_bitCount_0f7a4_23 : decode cJ6_bitCount_0f7a4 23 = .ok (.istore_n 0, 1) := by decide +kernel
theorem dJ6_bitCount_0f7a4_24 : decode cJ6_bitCount_0f7a4 24 = .ok (.iload_n 0, 1) := by decide +kernel
theorem dJ6_bitCount_0f7a4_25 : decode cJ6_bitCount_0f7a4 25 = .ok (.iload_n 0, 1) := by decide +kernel
theorem dJ6_bitCount_0f7a4_26 : decode cJ6_bitCount_0f7a4 26 = .ok (.iconst 4, 1) := by decide +kernel
theorem dJ6_bitCount_0f7a4_27 : decode cJ6_bitCount_0f7a4 27 = .ok (.iushr, 1) := by decide +kernel
theorem dJ6_bitCount_0f7a4_28 : decode cJ6_bitCount_0f7a4 28 = .ok (.iadd, 1) := by decide +kernel
theorem dJ6_bitCount_0f7a4_29 : decode cJ6_bitCount_0f7a4 29 = .ok (.ldc_w 267, 3) := by decide +kernel
theorem dJ6_bitCount_0f7a4_32 : decode cJ6_bitCount_0f7a4 32 = .ok (.iand, 1) := by decide +kernel
theorem dJ6_bitCount_0f7a4_33 : decode cJ6_bitCount_0f7a4 33 = .ok (.istore_n 0, 1) := by decide +kernel
theorem dJ6_bitCount_0f7a4_34 : decode cJ6_bitCount_0f7a4 34 = .ok (.iload_n 0, 1) := by decide +kernel
theorem dJ6_bitCount_0f7a4_35 : decode cJ6_bitCount_0f7a4 35 = .ok (.iload_n 0, 1) := by decide +kernel
theorem dJ6_bitCount_0f7a4_36 : decode cJ6_bitCount_0f7a4 36 = .ok (.bipush 8, 2) := by decide +kernel
theorem dJ6_bitCount_0f7a4_38 : decode cJ6_bitCount_0f7a4 38 = .ok (.iushr, 1) := by decide +kernel
theorem dJ6_bitCount_0f7a4_39 : decode cJ6_bitCount_0f7a4 39 = .ok (.iadd, 1) := by decide +kernel
theorem dJ6_bitCount_0f7a4_40 : decode cJ6_bitCount_0f7a4 40 = .ok (.istore_n 0, 1) := by decide +kernel
theorem dJ6_bitCount_0f7a4_41 : decode cJ6_bitCount_0f7a4 41 = .ok (.iload_n 0, 1) := by decide +kernel
theorem dJ6_bitCount_0f7a4_42 : decode cJ6_bitCount_0f7a4 42 = .ok (.iload_n 0, 1) := by decide +kernel
theorem dJ6_bitCount_0f7a4_43 : decode cJ6_bitCount_0f7a4 43 = .ok (.bipush 16, 2) := by decide +kernel
theorem dJ6_bitCount_0f7a4_45 : decode cJ6_bitCount_0f7a4 45 = .ok (.iushr, 1) := by decide +kernel
theorem dJ6_bitCount_0f7a4_46 : decode cJ6_bitCount_0f7a4 46 = .ok (.iadd, 1) := by decide +kernel
theorem dJ6_bitCount_0f7a4_47 : decode cJ6_bitCount_0f7a4 47 = .ok (.istore_n 0, 1) := by decide +kernel
theorem dJ6_bitCount_0f7a4_48 : decode cJ6_bitCount_0f7a4 48 = .ok (.iload_n 0, 1) := by decide +kernel
theorem dJ6_bitCount_0f7a4_49 : decode cJ6_bitCount_0f7a4 49 = .ok (.bipush 63, 2) := by decide +kernel
theorem dJ6_bitCount_0f7a4_51 : decode cJ6_bitCount_0f7a4 51 = .ok (.iand, 1) := by decide +kernel
theorem dJ6_bitCount_0f7a4_52 : decode cJ6_bitCount_0f7a4 52 = .ok (.ireturn, 1) := by decide +kernel
theorem dJ13_numberOfTrailingZeros_95d88_0 : decode cJ13_numberOfTrailingZeros_95d88 0 = .ok (.lload_n 0, 1) := by decide +kernel
theorem dJ13_numberOfTrailingZeros_95d88_1 : decode cJ13_numberOfTrailingZeros_95d88 1 = .ok (.l2i, 1) := by decide +kernel
theorem dJ13_numberOfTrailingZeros_95d88_2 : decode cJ13_numberOfTrailingZeros_95d88 2 = .ok (.istore_n 2, 1) := by decide +kernel
theorem dJ13_numberOfTrailingZeros_95d88_3 : decode cJ13_numberOfTrailingZeros_95d88 3 = .ok (.iload_n 2, 1) := by decide +kernel
theorem dJ13_numberOfTrailingZeros_95d88_4 : decode cJ13_numberOfTrailingZeros_95d88 4 = .ok (.ifCond .ne 17, 3) := by decide +kernel
theorem dJ13_numberOfTrailingZeros_95d88_7 : decode cJ13_numberOfTrailingZeros_95d88 7 = .ok (.bipush 32, 2) := by decide +kernel
theorem dJ13_numberOfTrailingZeros_95d88_9 : decode cJ13_numberOfTrailingZeros_95d88 9 = .ok (.lload_n 0, 1) := by decide +kernel
theorem dJ13_numberOfTrailingZeros_95d88_10 : decode cJ13_numberOfTrailingZeros_95d88 10 = .ok (.bipush 32, 2) := by decide +kernel
theorem dJ13_numberOfTrailingZeros_95d88_12 : decode cJ13_numberOfTrailingZeros_95d88 12 = .ok (.lushr, 1) := by decide +kernel
theorem dJ13_numberOfTrailingZeros_95d88_13 : decode cJ13_numberOfTrailingZeros_95d88 13 = .ok (.l2i, 1) := by decide +kernel
theorem dJ13_numberOfTrailingZeros_95d88_14 : decode cJ13_numberOfTrailingZeros_95d88 14 = .ok (.invokestatic 311, 3) := by decide +kernel
theorem dJ13_numberOfTrailingZeros_95d88_17 : decode cJ13_numberOfTrailingZeros_95d88 17 = .ok (.iadd, 1) := by decide +kernel
theorem dJ13_numberOfTrailingZeros_95d88_18 : decode cJ13_numberOfTrailingZeros_95d88 18 = .ok (.goto 7, 3) := by decide +kernel
theorem dJ13_numberOfTrailingZeros_95d88_21 : decode cJ13_numberOfTrailingZeros_95d88 21 = .ok (.iload_n 2, 1) := by decide +kernel
theorem dJ13_numberOfTrailingZeros_95d88_22 : decode cJ13_numberOfTrailingZeros_95d88 22 = .ok (.invokestatic 311, 3) := by decide +kernel
theorem dJ13_numberOfTrailingZeros_95d88_25 : decode cJ13_numberOfTrailingZeros_95d88 25 = .ok (.ireturn, 1) := by decide +kernel
theorem dJ13_bitCount_95d88_0 : decode cJ13_bitCount_95d88 0 = .ok (.lload_n 0, 1) := by decide +kernel
theorem dJ13_bitCount_95d88_1 : decode cJ13_bitCount_95d88 1 = .ok (.lload_n 0, 1) := by decide +kernel
theorem dJ13_bitCount_95d88_2 : decode cJ13_bitCount_95d88 2 = .ok (.iconst 1, 1) := by decide +kernel
theorem dJ13_bitCount_95d88_3 : decode cJ13_bitCount_95d88 3 = .ok (.lushr, 1) := by decide +kernel
theorem dJ13_bitCount_95d88_4 : decode cJ13_bitCount_95d88 4 = .ok (.ldc2_w 314, 3) := by decide +kernel
theorem dJ13_bitCount_95d88_7 : decode cJ13_bitCount_95d88 7 = .ok (.land, 1) := by decide +kernel
theorem dJ13_bitCount_95d88_8 : decode cJ13_bitCount_95d88 8 = .ok (.lsub, 1) := by decide +kernel
theorem dJ13_bitCount_95d88_9 : decode cJ13_bitCount_95d88 9 = .ok (.lstore_n 0, 1) := by decide +kernel
theorem dJ13_bitCount_95d88_10 : decode cJ13_bitCount_95d88 10 = .ok (.lload_n 0, 1) := by decide +kernel
theorem dJ13_bitCount_95d88_11 : decode cJ13_bitCount_95d88 11 = .ok (.ldc2_w 316, 3) := by decide +kernel
theorem dJ13_bitCount_95d88_14 : decode cJ13_bitCount_95d88 14 = .ok (.land, 1) := by decide +kernel
theorem dJ13_bitCount_95d88_15 : decode cJ13_bitCount_95d88 15 = .ok (.lload_n 0, 1) := by decide +kernel
theorem dJ13_bitCount_95d88_16 : decode cJ13_bitCount_95d88 16 = .ok (.iconst 2, 1) := by decide +kernel
theorem dJ13_bitCount_95d88_17 : decode cJ13_bitCount_95d88 17 = .ok (.lushr, 1) := by decide +kernel
theorem dJ13_bitCount_95d88_18 : decode cJ13_bitCount_95d88 18 = .ok (.ldc2_w 316, 3) := by decide +kernel
theorem dJ13_bitCount_95d88_21 : decode cJ13_bitCount_95d88 21 = .ok (.land, 1) := by decide +kernel
theorem dJ13_bitCount_95d88_22 : decode cJ13_bitCount_95d88 22 = .ok (.ladd, 1) := by decide +kernel
theorem dJ13_bitCount_95d88_23 : decode cJ13_bitCount_95d88 23 = .ok (.lstore_n 0, 1) := by decide +kernel
theorem dJ13_bitCount_95d88_24 : decode cJ13_bitCount_95d88 24 = .ok (.lload_n 0, 1) := by decide +kernel
theorem dJ13_bitCount_95d88_25 : decode cJ13_bitCount_95d88 25 = .ok (.lload_n 0, 1) := by decide +kernel
theorem dJ13_bitCount_95d88_26 : decode cJ13_bitCount_95d88 26 = .ok (.iconst 4, 1) := by decide +kernel
theorem dJ13_bitCount_95d88_27 : decode cJ13_bitCount_95d88 27 = .ok (.lushr, 1) := by decide +kernel
theorem dJ13_bitCount_95d88_28 : decode cJ13_bitCount_95d88 28 = .ok (.ladd, 1) := by decide +kernel
theorem dJ13_bitCount_95d88_29 : decode cJ13_bitCount_95d88 29 = .ok (.ldc2_w 318, 3) := by decide +kernel
theorem dJ13_bitCount_95d88_32 : decode cJ13_bitCount_95d88 32 = .ok (.land, 1) := by decide +kernel
theorem dJ13_bitCount_95d88_33 : decode cJ13_bitCount_95d88 33 = .ok (.lstore_n 0, 1) := by decide +kernel
theorem dJ13_bitCount_95d88_34 : decode cJ13_bitCount_95d88 34 = .ok (.lload_n 0, 1) := by decide +kernel
theorem dJ13_bitCount_95d88_35 : decode cJ13_bitCount_95d88 35 = .ok (.lload_n 0, 1) := by decide +kernel
theorem dJ13_bitCount_95d88_36 : decode cJ13_bitCount_95d88 36 = .ok (.bipush 8, 2) := by decide +kernel
theorem dJ13_bitCount_95d88_38 : decode cJ13_bitCount_95d88 38 = .ok (.lushr, 1) := by decide +kernel
theorem dJ13_bitCount_95d88_39 : decode cJ13_bitCount_95d88 39 = .ok (.ladd, 1) := by decide +kernel
theorem dJ13_bitCount_95d88_40 : decode cJ13_bitCount_95d88 40 = .ok (.lstore_n 0, 1) := by decide +kernel
theorem dJ13_bitCount_95d88_41 : decode cJ13_bitCount_95d88 41 = .ok (.lload_n 0, 1) := by decide +kernel
theorem dJ13_bitCount_95d88_42 : decode cJ13_bitCount_95d88 42 = .ok (.lload_n 0, 1) := by decide +kernel
theorem dJ13_bitCount_95d88_43 : decode cJ13_bitCount_95d88 43 = .ok (.bipush 16, 2) := by decide +kernel
theorem dJ13_bitCount_95d88_45 : decode cJ13_bitCount_95d88 45 = .ok (.lushr, 1) := by decide +kernel
theorem dJ13_bitCount_95d88_46 : decode cJ13_bitCount_95d88 46 = .ok (.ladd, 1) := by decide +kernel
theorem dJ13_bitCount_95d88_47 : decode cJ13_bitCount_95d88 47 = .ok (.lstore_n 0, 1) := by decide +kernel
theorem dJ13_bitCount_95d88_48 : decode cJ13_bitCount_95d88 48 = .ok (.lload_n 0, 1) := by decide +kernel
theorem dJ13_bitCount_95d88_49 : decode cJ13_bitCount_95d88 49 = .ok (.lload_n 0, 1) := by decide +kernel
theorem dJ13_bitCount_95d88_50 : decode cJ13_bitCount_95d88 50 = .ok (.bipush 32, 2) := by decide +kernel
theorem dJ13_bitCount_95d88_52 : decode cJ13_bitCount_95d88 52 = .ok (.lushr, 1) := by decide +kernel
theorem dJ13_bitCount_95d88_53 : decode cJ13_bitCount_95d88 53 = .ok (.ladd, 1) := by decide +kernel
theorem dJ13_bitCount_95d88_54 : decode cJ13_bitCount_95d88 54 = .ok (.lstore_n 0, 1) := by decide +kernel
theorem dJ13_bitCount_95d88_55 : decode cJ13_bitCount_95d88 55 = .ok (.lload_n 0, 1) := by decide +kernel
theorem dJ13_bitCount_95d88_56 : decode cJ13_bitCount_95d88 56 = .ok (.l2i, 1) := by decide +kernel
theorem dJ13_bitCount_95d88_57 : decode cJ13_bitCount_95d88 57 = .ok (.bipush 127, 2) := by decide +kernel
theorem dJ13_bitCount_95d88_59 : decode cJ13_bitCount_95d88 59 = .ok (.iand, 1) := by decide +kernel
theorem dJ13_bitCount_95d88_60 : decode cJ13_bitCount_95d88 60 = .ok (.ireturn, 1) := by decide +kernel
theorem dJ9_max_7cf53_0 : decode cJ9_max_7cf53 0 = .ok (.iload_n 0, 1) := by decide +kernel
theorem dJ9_max_7cf53_1 : decode cJ9_max_7cf53 1 = .ok (.iload_n 1, 1) := by decide +kernel
theorem dJ9_max_7cf53_2 : decode cJ9_max_7cf53 2 = .ok (.if_icmp .lt 7, 3) := by decide +kernel
theorem dJ9_max_7cf53_5 : decode cJ9_max_7cf53 5 = .ok (.iload_n 0, 1) := by decide +kernel
theorem dJ9_max_7cf53_6 : decode cJ9_max_7cf53 6 = .ok (.goto 4, 3) := by decide +kernel
theorem dJ9_max_7cf53_9 : decode cJ9_max_7cf53 9 = .ok (.iload_n 1, 1) := by decide +kernel
theorem dJ9_max_7cf53_10 : decode cJ9_max_7cf53 10 = .ok (.ireturn, 1) := by decide +kernel
theorem dJ9_min_7cf53_0 : decode cJ9_min_7cf53 0 = .ok (.iload_n 0, 1) := by decide +kernel
theorem dJ9_min_7cf53_1 : decode cJ9_min_7cf53 1 = .ok (.iload_n 1, 1) := by decide +kernel
theorem dJ9_min_7cf53_2 : decode cJ9_min_7cf53 2 = .ok (.if_icmp .gt 7, 3) := by decide +kernel
theorem dJ9_min_7cf53_5 : decode cJ9_min_7cf53 5 = .ok (.iload_n 0, 1) := by decide +kernel
theorem dJ9_min_7cf53_6 : decode cJ9_min_7cf53 6 = .ok (.goto 4, 3) := by decide +kernel
theorem dJ9_min_7cf53_9 : decode cJ9_min_7cf53 9 = .ok (.iload_n 1, 1) := by decide +kernel
theorem dJ9_min_7cf53_10 : decode cJ9_min_7cf53 10 = .ok (.ireturn, 1) := by decide +kernel
theorem dJ0_length_8abf5_0 : decode cJ0_length_8abf5 0 = .ok (.aload_n 0, 1) := by decide +kernel
theorem dJ0_length_8abf5_1 : decode cJ0_length_8abf5 1 = .ok (.getfield 9, 3) := by decide +kernel
theorem dJ0_length_8abf5_4 : decode cJ0_length_8abf5 4 = .ok (.arraylength, 1) := by decide +kernel
theorem dJ0_length_8abf5_5 : decode cJ0_length_8abf5 5 = .ok (.aload_n 0, 1) := by decide +kernel
theorem dJ0_length_8abf5_6 : decode cJ0_length_8abf5 6 = .ok (.invokevirtual 335, 3) := by decide +kernel
theorem dJ0_length_8abf5_9 : decode cJ0_length_8abf5 9 = .ok (.ishr, 1) := by decide +kernel
theorem dJ0_length_8abf5_10 : decode cJ0_length_8abf5 10 = .ok (.ireturn, 1) := by decide +kernel
theorem dJ0_charAt_5068e_0 : decode cJ0_charAt_5068e 0 = .ok (.aload_n 0, 1) := by decide +kernel
theorem dJ0_charAt_5068e_1 : decode cJ0_charAt_5068e 1 = .ok (.invokevirtual 492, 3) := by decide +kernel
theorem dJ0_charAt_5068e_4 : decode cJ0_charAt_5068e 4 = .ok (.ifCond .eq 12, 3) := by decide +kernel
theorem dJ0_charAt_5068e_7 : decode cJ0_charAt_5068e 7 = .ok (.aload_n 0, 1) := by decide +kernel
theorem dJ0_charAt_5068e_8 : decode cJ0_charAt_5068e 8 = .ok (.getfield 9, 3) := by decide +kernel
theorem dJ0_charAt_5068e_11 : decode cJ0_charAt_5068e 11 = .ok (.iload_n 1, 1) := by decide +kernel
theorem dJ0_charAt_5068e_12 : decode cJ0_charAt_5068e 12 = .ok (.invokestatic 495, 3) := by decide +kernel
theorem dJ0_charAt_5068e_15 : decode cJ0_charAt_5068e 15 = .ok (.ireturn, 1) := by decide +kernel
theorem dJ0_charAt_5068e_16 : decode cJ0_charAt_5068e 16 = .ok (.aload_n 0, 1) := by decide +kernel
theorem dJ0_charAt_5068e_17 : decode cJ0_charAt_5068e 17 = .ok (.getfield 9, 3) := by decide +kernel
theorem dJ0_charAt_5068e_20 : decode cJ0_charAt_5068e 20 = .ok (.iload_n 1, 1) := by decide +kernel
theorem dJ0_charAt_5068e_21 : decode cJ0_charAt_5068e 21 = .ok (.invokestatic 498, 3) := by decide +kernel
theorem dJ0_charAt_5068e_24 : decode cJ0_charAt_5068e 24 = .ok (.ireturn, 1) := by decide +kernel
theorem dJ0_coder_7d493_0 : decode cJ0_coder_7d493 0 = .ok (.getstatic 38, 3) := by decide +kernel
theorem dJ0_coder_7d493_3 : decode cJ0_coder_7d493 3 = .ok (.ifCond .eq 10, 3) := by decide +kernel
theorem dJ0_coder_7d493_6 : decode cJ0_coder_7d493 6 = .ok (.aload_n 0, 1) := by decide +kernel
theorem dJ0_coder_7d493_7 : decode cJ0_coder_7d493 7 = .ok (.getfield 15, 3) := by decide +kernel
theorem dJ0_coder_7d493_10 : decode cJ0_coder_7d493 10 = .ok (.goto 4, 3) := by decide +kernel
theorem dJ0_coder_7d493_13 : decode cJ0_coder_7d493 13 = .ok (.iconst 1, 1) := by decide +kernel
theorem dJ0_coder_7d493_14 : decode cJ0_coder_7d493 14 = .ok (.ireturn, 1) := by decide +kernel
theorem dJ0_isLatin1_aae02_0 : decode cJ0_isLatin1_aae02 0 = .ok (.getstatic 38, 3) := by decide +kernel
theorem dJ0_isLatin1_aae02_3 : decode cJ0_isLatin1_aae02 3 = .ok (.ifCond .eq 14, 3) := by decide +kernel
theorem dJ0_isLatin1_aae02_6 : decode cJ0_isLatin1_aae02 6 = .ok (.aload_n 0, 1) := by decide +kernel
theorem dJ0_isLatin1_aae02_7 : decode cJ0_isLatin1_aae02 7 = .ok (.getfield 15, 3) := by decide +kernel
theorem dJ0_isLatin1_aae02_10 : decode cJ0_isLatin1_aae02 10 = .ok (.ifCond .ne 7, 3) := by decide +kernel
theorem dJ0_isLatin1_aae02_13 : decode cJ0_isLatin1_aae02 13 = .ok (.iconst 1, 1) := by decide +kernel
theorem dJ0_isLatin1_aae02_14 : decode cJ0_isLatin1_aae02 14 = .ok (.goto 4, 3) := by decide +kernel
theorem dJ0_isLatin1_aae02_17 : decode cJ0_isLatin1_aae02 17 = .ok (.iconst 0, 1) := by decide +kernel
theorem dJ0_isLatin1_aae02_18 : decode cJ0_isLatin1_aae02 18 = .ok (.ireturn, 1) := by decide +kernel
theorem dJ0_checkIndex_df160_0 : decode cJ0_checkIndex_df160 0 = .ok (.iload_n 0, 1) := by decide +kernel
theorem dJ0_checkIndex_df160_1 : decode cJ0_checkIndex_df160 1 = .ok (.iload_n 1, 1) := by decide +kernel
theorem dJ0_checkIndex_df160_2 : decode cJ0_checkIndex_df160 2 = .ok (.getstatic 1053, 3) := by decide +kernel
theorem dJ0_checkIndex_df160_5 : decode cJ0_checkIndex_df160 5 = .ok (.invokestatic 1059, 3) := by decide +kernel
theorem dJ0_checkIndex_df160_8 : decode cJ0_checkIndex_df160 8 = .ok (.pop, 1) := by decide +kernel
theorem dJ0_checkIndex_df160_9 : decode cJ0_checkIndex_df160 9 = .ok (.return_, 1) := by decide +kernel
theorem dJ1_charAt_3b067_0 : decode cJ1_charAt_3b067 0 = .ok (.iload_n 1, 1) := by decide +kernel
theorem dJ1_charAt_3b067_1 : decode cJ1_charAt_3b067 1 = .ok (.aload_n 0, 1) := by decide +kernel
theorem dJ1_charAt_3b067_2 : decode cJ1_charAt_3b067 2 = .ok (.arraylength, 1) := by decide +kernel
theorem dJ1_charAt_3b067_3 : decode cJ1_charAt_3b067 3 = .ok (.invokestatic 9, 3) := by decide +kernel
theorem dJ1_charAt_3b067_6 : decode cJ1_charAt_3b067 6 = .ok (.aload_n 0, 1) := by decide +kernel
theorem dJ1_charAt_3b067_7 : decode cJ1_charAt_3b067 7 = .ok (.iload_n 1, 1) := by decide +kernel
theorem dJ1_charAt_3b067_8 : decode cJ1_charAt_3b067 8 = .ok (.baload, 1) := by decide +kernel
theorem dJ1_charAt_3b067_9 : decode cJ1_charAt_3b067 9 = .ok (.sipush 255, 3) := by decide +kernel
theorem dJ1_charAt_3b067_12 : decode cJ1_charAt_3b067 12 = .ok (.iand, 1) := by decide +kernel
theorem dJ1_charAt_3b067_13 : decode cJ1_charAt_3b067 13 = .ok (.i2c, 1) := by decide +kernel
theorem dJ1_charAt_3b067_14 : decode cJ1_charAt_3b067 14 = .ok (.ireturn, 1) := by decide +kernel
theorem dJ2_getChar_3b067_0 : decode cJ2_getChar_3b067 0 = .ok (.getstatic 44, 3) := by decide +kernel
theorem dJ2_getChar_3b067_3 : decode cJ2_getChar_3b067 3 = .ok (.ifCond .ne 25, 3) := by decide +kernel
theorem dJ2_getChar_3b067_6 : decode cJ2_getChar_3b067 6 = .ok (.iload_n 1, 1) := by decide +kernel
theorem dJ2_getChar_3b067_7 : decode cJ2_getChar_3b067 7 = .ok (.ifCond .lt 11, 3) := by decide +kernel
theorem dJ2_getChar_3b067_10 : decode cJ2_getChar_3b067 10 = .ok (.iload_n 1, 1) := by decide +kernel
theorem dJ2_getChar_3b067_11 : decode cJ2_getChar_3b067 11 = .ok (.aload_n 0, 1) := by decide +kernel
theorem dJ2_getChar_3b067_12 : decode cJ2_getChar_3b067 12 = .ok (.invokestatic 48, 3) := by decide +kernel
theorem dJ2_getChar_3b067_15 : decode cJ2_getChar_3b067 15 = .ok (.if_icmp .lt 13, 3) := by decide +kernel
theorem dJ2_getChar_3b067_18 : decode cJ2_getChar_3b067 18 = .ok (.new 52, 3) := by decide +kernel
theorem dJ2_getChar_3b067_21 : decode cJ2_getChar_3b067 21 = .ok (.dup, 1) := by decide +kernel
theorem dJ2_getChar_3b067_22 : decode cJ2_getChar_3b067 22 = .ok (.ldc 54, 2) := by decide +kernel
theorem dJ2_getChar_3b067_24 : decode cJ2_getChar_3b067 24 = .ok (.invokespecial 56, 3) := by decide +kernel
theorem dJ2_getChar_3b067_27 : decode cJ2_getChar_3b067 27 = .ok (.athrow, 1) := by decide +kernel
theorem dJ2_getChar_3b067_28 : decode cJ2_getChar_3b067 28 = .ok (.iload_n 1, 1) := by decide +kernel
theorem dJ2_getChar_3b067_29 : decode cJ2_getChar_3b067 29 = .ok (.iconst 1, 1) := by decide +kernel
theorem dJ2_getChar_3b067_30 : decode cJ2_getChar_3b067 30 = .ok (.ishl, 1) := by decide +kernel
theorem dJ2_getChar_3b067_31 : decode cJ2_getChar_3b067 31 = .ok (.istore_n 1, 1) := by decide +kernel
theorem dJ2_getChar_3b067_32 : decode cJ2_getChar_3b067 32 = .ok (.aload_n 0, 1) := by decide +kernel
theorem dJ2_getChar_3b067_33 : decode cJ2_getChar_3b067 33 = .ok (.iload_n 1, 1) := by decide +kernel
theorem dJ2_getChar_3b067_34 : decode cJ2_getChar_3b067 34 = .ok (.iinc 1 1, 3) := by decide +kernel
theorem dJ2_getChar_3b067_37 : decode cJ2_getChar_3b067 37 = .ok (.baload, 1) := by decide +kernel
theorem dJ2_getChar_3b067_38 : decode cJ2_getChar_3b067 38 = .ok (.sipush 255, 3) := by decide +kernel
theorem dJ2_getChar_3b067_41 : decode cJ2_getChar_3b067 41 = .ok (.iand, 1) := by decide +kernel
theorem dJ2_getChar_3b067_42 : decode cJ2_getChar_3b067 42 = .ok (.getstatic 59, 3) := by decide +kernel
theorem dJ2_getChar_3b067_45 : decode cJ2_getChar_3b067 45 = .ok (.ishl, 1) := by decide +kernel
theorem dJ2_getChar_3b067_46 : decode cJ2_getChar_3b067 46 = .ok (.aload_n 0, 1) := by decide +kernel
theorem dJ2_getChar_3b067_47 : decode cJ2_getChar_3b067 47 = .ok (.iload_n 1, 1) := by decide +kernel
theorem dJ2_getChar_3b067_48 : decode cJ2_getChar_3b067 48 = .ok (.baload, 1) := by decide +kernel
theorem dJ2_getChar_3b067_49 : decode cJ2_getChar_3b067 49 = .ok (.sipush 255, 3) := by decide +kernel
theorem dJ2_getChar_3b067_52 : decode cJ2_getChar_3b067 52 = .ok (.iand, 1) := by decide +kernel
theorem dJ2_getChar_3b067_53 : decode cJ2_getChar_3b067 53 = .ok (.getstatic 63, 3) := by decide +kernel
theorem dJ2_getChar_3b067_56 : decode cJ2_getChar_3b067 56 = .ok (.ishl, 1) := by decide +kernel
theorem dJ2_getChar_3b067_57 : decode cJ2_getChar_3b067 57 = .ok (.ior, 1) := by decide +kernel
theorem dJ2_getChar_3b067_58 : decode cJ2_getChar_3b067 58 = .ok (.i2c, 1) := by decide +kernel
theorem dJ2_getChar_3b067_59 : decode cJ2_getChar_3b067 59 = .ok (.ireturn, 1) := by decide +kernel
theorem dJ2_length_9d52b_0 : decode cJ2_length_9d52b 0 = .ok (.aload_n 0, 1) := by decide +kernel
theorem dJ2_length_9d52b_1 : decode cJ2_length_9d52b 1 = .ok (.arraylength, 1) := by decide +kernel
theorem dJ2_length_9d52b_2 : decode cJ2_length_9d52b 2 = .ok (.iconst 1, 1) := by decide +kernel
theorem dJ2_length_9d52b_3 : decode cJ2_length_9d52b 3 = .ok (.ishr, 1) := by decide +kernel
theorem dJ2_length_9d52b_4 : decode cJ2_length_9d52b 4 = .ok (.ireturn, 1) := by decide +kernel
theorem dJ2_charAt_3b067_0 : decode cJ2_charAt_3b067 0 = .ok (.iload_n 1, 1) := by decide +kernel
theorem dJ2_charAt_3b067_1 : decode cJ2_charAt_3b067 1 = .ok (.aload_n 0, 1) := by decide +kernel
theorem dJ2_charAt_3b067_2 : decode cJ2_charAt_3b067 2 = .ok (.invokestatic 67, 3) := by decide +kernel
theorem dJ2_charAt_3b067_5 : decode cJ2_charAt_3b067 5 = .ok (.aload_n 0, 1) := by decide +kernel
theorem dJ2_charAt_3b067_6 : decode cJ2_charAt_3b067 6 = .ok (.iload_n 1, 1) := by decide +kernel
theorem dJ2_charAt_3b067_7 : decode cJ2_charAt_3b067 7 = .ok (.invokestatic 71, 3) := by decide +kernel
theorem dJ2_charAt_3b067_10 : decode cJ2_charAt_3b067 10 = .ok (.ireturn, 1) := by decide +kernel
theorem dJ2_checkIndex_2214a_0 : decode cJ2_checkIndex_2214a 0 = .ok (.iload_n 0, 1) := by decide +kernel
theorem dJ2_checkIndex_2214a_1 : decode cJ2_checkIndex_2214a 1 = .ok (.aload_n 1, 1) := by decide +kernel
theorem dJ2_checkIndex_2214a_2 : decode cJ2_checkIndex_2214a 2 = .ok (.invokestatic 48, 3) := by decide +kernel
theorem dJ2_checkIndex_2214a_5 : decode cJ2_checkIndex_2214a 5 = .ok (.invokestatic 414, 3) := by decide +kernel
theorem dJ2_checkIndex_2214a_8 : decode cJ2_checkIndex_2214a 8 = .ok (.return_, 1) := by decide +kernel
theorem dJ3_checkIndex_8e157_0 : decode cJ3_checkIndex_8e157 0 = .ok (.iload_n 0, 1) := by decide +kernel
theorem dJ3_checkIndex_8e157_1 : decode cJ3_checkIndex_8e157 1 = .ok (.ifCond .lt 8, 3) := by decide +kernel
theorem dJ3_checkIndex_8e157_4 : decode cJ3_checkIndex_8e157 4 = .ok (.iload_n 0, 1) := by decide +kernel
theorem dJ3_checkIndex_8e157_5 : decode cJ3_checkIndex_8e157 5 = .ok (.iload_n 1, 1) := by decide +kernel
theorem dJ3_checkIndex_8e157_6 : decode cJ3_checkIndex_8e157 6 = .ok (.if_icmp .lt 10, 3) := by decide +kernel
theorem dJ3_checkIndex_8e157_9 : decode cJ3_checkIndex_8e157 9 = .ok (.aload_n 2, 1) := by decide +kernel
theorem dJ3_checkIndex_8e157_10 : decode cJ3_checkIndex_8e157 10 = .ok (.iload_n 0, 1) := by decide +kernel
theorem dJ3_checkIndex_8e157_11 : decode cJ3_checkIndex_8e157 11 = .ok (.iload_n 1, 1) := by decide +kernel
theorem dJ3_checkIndex_8e157_12 : decode cJ3_checkIndex_8e157 12 = .ok (.invokestatic 95, 3) := by decide +kernel
theorem dJ3_checkIndex_8e157_15 : decode cJ3_checkIndex_8e157 15 = .ok (.athrow, 1) := by decide +kernel
theorem dJ3_checkIndex_8e157_16 : decode cJ3_checkIndex_8e157 16 = .ok (.iload_n 0, 1) := by decide +kernel
theorem dJ3_checkIndex_8e157_17 : decode cJ3_checkIndex_8e157 17 = .ok (.ireturn, 1) := by decide +kernel
