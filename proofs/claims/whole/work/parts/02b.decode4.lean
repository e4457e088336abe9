theorem dX10_solveState_155 : decode cX10_solveState 155 = .ok (.imul, 1) := by decide +kernel
theorem dX10_solveState_156 : decode cX10_solveState 156 = .ok (.iload_n 2, 1) := by decide +kernel
theorem dX10_solveState_157 : decode cX10_solveState 157 = .ok (.iadd, 1) := by decide +kernel
theorem dX10_solveState_158 : decode cX10_solveState 158 = .ok (.iload 5, 2) := by decide +kernel
theorem dX10_solveState_160 : decode cX10_solveState 160 = .ok (.iastore, 1) := by decide +kernel
theorem dX10_solveState_161 : decode cX10_solveState 161 = .ok (.aload_n 0, 1) := by decide +kernel
theorem dX10_solveState_162 : decode cX10_solveState 162 = .ok (.getfield 68, 3) := by decide +kernel
theorem dX10_solveState_165 : decode cX10_solveState 165 = .ok (.iconst 2, 1) := by decide +kernel
theorem dX10_solveState_166 : decode cX10_solveState 166 = .ok (.iload_n 1, 1) := by decide +kernel
theorem dX10_solveState_167 : decode cX10_solveState 167 = .ok (.imul, 1) := by decide +kernel
theorem dX10_solveState_168 : decode cX10_solveState 168 = .ok (.iload_n 2, 1) := by decide +kernel
theorem dX10_solveState_169 : decode cX10_solveState 169 = .ok (.iadd, 1) := by decide +kernel
theorem dX10_solveState_170 : decode cX10_solveState 170 = .ok (.iload 6, 2) := by decide +kernel
theorem dX10_solveState_172 : decode cX10_solveState 172 = .ok (.ifCond .ne 7, 3) := by decide +kernel
theorem dX10_solveState_175 : decode cX10_solveState 175 = .ok (.iconst 1, 1) := by decide +kernel
theorem dX10_solveState_176 : decode cX10_solveState 176 = .ok (.goto 4, 3) := by decide +kernel
theorem dX10_solveState_179 : decode cX10_solveState 179 = .ok (.iconst 0, 1) := by decide +kernel
theorem dX10_solveState_180 : decode cX10_solveState 180 = .ok (.bastore, 1) := by decide +kernel
theorem dX10_solveState_181 : decode cX10_solveState 181 = .ok (.return_, 1) := by decide +kernel
theorem dX10_solveGame_0 : decode cX10_solveGame 0 = .ok (.iconst 0, 1) := by decide +kernel
theorem dX10_solveGame_1 : decode cX10_solveGame 1 = .ok (.istore_n 1, 1) := by decide +kernel
theorem dX10_solveGame_2 : decode cX10_solveGame 2 = .ok (.iload_n 1, 1) := by decide +kernel
theorem dX10_solveGame_3 : decode cX10_solveGame 3 = .ok (.aload_n 0, 1) := by decide +kernel
theorem dX10_solveGame_4 : decode cX10_solveGame 4 = .ok (.getfield 103, 3) := by decide +kernel
theorem dX10_solveGame_7 : decode cX10_solveGame 7 = .ok (.if_icmp .gt 148, 3) := by decide +kernel
theorem dX10_solveGame_10 : decode cX10_solveGame 10 = .ok (.iconst 0, 1) := by decide +kernel
theorem dX10_solveGame_11 : decode cX10_solveGame 11 = .ok (.istore_n 2, 1) := by decide +kernel
theorem dX10_solveGame_12 : decode cX10_solveGame 12 = .ok (.iload_n 2, 1) := by decide +kernel
theorem dX10_solveGame_13 : decode cX10_solveGame 13 = .ok (.sipush 729, 3) := by decide +kernel
theorem dX10_solveGame_16 : decode cX10_solveGame 16 = .ok (.if_icmp .ge 133, 3) := by decide +kernel
theorem dX10_solveGame_19 : decode cX10_solveGame 19 = .ok (.aload_n 0, 1) := by decide +kernel
theorem dX10_solveGame_20 : decode cX10_solveGame 20 = .ok (.iload_n 2, 1) := by decide +kernel
theorem dX10_solveGame_21 : decode cX10_solveGame 21 = .ok (.invokevirtual 289, 3) := by decide +kernel
theorem dX10_solveGame_24 : decode cX10_solveGame 24 = .ok (.aload_n 0, 1) := by decide +kernel
theorem dX10_solveGame_25 : decode cX10_solveGame 25 = .ok (.invokevirtual 292, 3) := by decide +kernel
theorem dX10_solveGame_28 : decode cX10_solveGame 28 = .ok (.iload_n 1, 1) := by decide +kernel
theorem dX10_solveGame_29 : decode cX10_solveGame 29 = .ok (.if_icmp .ne 114, 3) := by decide +kernel
theorem dX10_solveGame_32 : decode cX10_solveGame 32 = .ok (.aload_n 0, 1) := by decide +kernel
theorem dX10_solveGame_33 : decode cX10_solveGame 33 = .ok (.iload_n 2, 1) := by decide +kernel
theorem dX10_solveGame_34 : decode cX10_solveGame 34 = .ok (.iconst 0, 1) := by decide +kernel
theorem dX10_solveGame_35 : decode cX10_solveGame 35 = .ok (.invokevirtual 295, 3) := by decide +kernel
theorem dX10_solveGame_38 : decode cX10_solveGame 38 = .ok (.aload_n 0, 1) := by decide +kernel
theorem dX10_solveGame_39 : decode cX10_solveGame 39 = .ok (.iload_n 2, 1) := by decide +kernel
theorem dX10_solveGame_40 : decode cX10_solveGame 40 = .ok (.iconst 1, 1) := by decide +kernel
theorem dX10_solveGame_41 : decode cX10_solveGame 41 = .ok (.invokevirtual 295, 3) := by decide +kernel
theorem dX10_solveGame_44 : decode cX10_solveGame 44 = .ok (.aload_n 0, 1) := by decide +kernel
theorem dX10_solveGame_45 : decode cX10_solveGame 45 = .ok (.getfield 62, 3) := by decide +kernel
theorem dX10_solveGame_48 : decode cX10_solveGame 48 = .ok (.iconst 2, 1) := by decide +kernel
theorem dX10_solveGame_49 : decode cX10_solveGame 49 = .ok (.iload_n 2, 1) := by decide +kernel
theorem dX10_solveGame_50 : decode cX10_solveGame 50 = .ok (.imul, 1) := by decide +kernel
theorem dX10_solveGame_51 : decode cX10_solveGame 51 = .ok (.iaload, 1) := by decide +kernel
theorem dX10_solveGame_52 : decode cX10_solveGame 52 = .ok (.istore_n 3, 1) := by decide +kernel
theorem dX10_solveGame_53 : decode cX10_solveGame 53 = .ok (.aload_n 0, 1) := by decide +kernel
theorem dX10_solveGame_54 : decode cX10_solveGame 54 = .ok (.getfield 62, 3) := by decide +kernel
theorem dX10_solveGame_57 : decode cX10_solveGame 57 = .ok (.iconst 2, 1) := by decide +kernel
theorem dX10_solveGame_58 : decode cX10_solveGame 58 = .ok (.iload_n 2, 1) := by decide +kernel
theorem dX10_solveGame_59 : decode cX10_solveGame 59 = .ok (.imul, 1) := by decide +kernel
theorem dX10_solveGame_60 : decode cX10_solveGame 60 = .ok (.iconst 1, 1) := by decide +kernel
theorem dX10_solveGame_61 : decode cX10_solveGame 61 = .ok (.iadd, 1) := by decide +kernel
theorem dX10_solveGame_62 : decode cX10_solveGame 62 = .ok (.iaload, 1) := by decide +kernel
theorem dX10_solveGame_63 : decode cX10_solveGame 63 = .ok (.istore 4, 2) := by decide +kernel
theorem dX10_solveGame_65 : decode cX10_solveGame 65 = .ok (.aload_n 0, 1) := by decide +kernel
theorem dX10_solveGame_66 : decode cX10_solveGame 66 = .ok (.getfield 62, 3) := by decide +kernel
theorem dX10_solveGame_69 : decode cX10_solveGame 69 = .ok (.iconst 2, 1) := by decide +kernel
theorem dX10_solveGame_70 : decode cX10_solveGame 70 = .ok (.iload_n 2, 1) := by decide +kernel
theorem dX10_solveGame_71 : decode cX10_solveGame 71 = .ok (.imul, 1) := by decide +kernel
theorem dX10_solveGame_72 : decode cX10_solveGame 72 = .ok (.aload_n 0, 1) := by decide +kernel
theorem dX10_solveGame_73 : decode cX10_solveGame 73 = .ok (.getfield 68, 3) := by decide +kernel
theorem dX10_solveGame_76 : decode cX10_solveGame 76 = .ok (.iconst 2, 1) := by decide +kernel
theorem dX10_solveGame_77 : decode cX10_solveGame 77 = .ok (.iload_n 2, 1) := by decide +kernel
theorem dX10_solveGame_78 : decode cX10_solveGame 78 = .ok (.imul, 1) := by decide +kernel
theorem dX10_solveGame_79 : decode cX10_solveGame 79 = .ok (.baload, 1) := by decide +kernel
theorem dX10_solveGame_80 : decode cX10_solveGame 80 = .ok (.ifCond .eq 21, 3) := by decide +kernel
theorem dX10_solveGame_83 : decode cX10_solveGame 83 = .ok (.aload_n 0, 1) := by decide +kernel
theorem dX10_solveGame_84 : decode cX10_solveGame 84 = .ok (.getfield 68, 3) := by decide +kernel
theorem dX10_solveGame_87 : decode cX10_solveGame 87 = .ok (.iconst 2, 1) := by decide +kernel
theorem dX10_solveGame_88 : decode cX10_solveGame 88 = .ok (.iload_n 2, 1) := by decide +kernel
theorem dX10_solveGame_89 : decode cX10_solveGame 89 = .ok (.imul, 1) := by decide +kernel
theorem dX10_solveGame_90 : decode cX10_solveGame 90 = .ok (.iconst 1, 1) := by decide +kernel
theorem dX10_solveGame_91 : decode cX10_solveGame 91 = .ok (.iadd, 1) := by decide +kernel
theorem dX10_solveGame_92 : decode cX10_solveGame 92 = .ok (.baload, 1) := by decide +kernel
theorem dX10_solveGame_93 : decode cX10_solveGame 93 = .ok (.ifCond .ne 8, 3) := by decide +kernel
theorem dX10_solveGame_96 : decode cX10_solveGame 96 = .ok (.iload 4, 2) := by decide +kernel
theorem dX10_solveGame_98 : decode cX10_solveGame 98 = .ok (.goto 4, 3) := by decide +kernel
theorem dX10_solveGame_101 : decode cX10_solveGame 101 = .ok (.iload_n 3, 1) := by decide +kernel
theorem dX10_solveGame_102 : decode cX10_solveGame 102 = .ok (.iastore, 1) := by decide +kernel
theorem dX10_solveGame_103 : decode cX10_solveGame 103 = .ok (.aload_n 0, 1) := by decide +kernel
theorem dX10_solveGame_104 : decode cX10_solveGame 104 = .ok (.getfield 62, 3) := by decide +kernel
theorem dX10_solveGame_107 : decode cX10_solveGame 107 = .ok (.iconst 2, 1) := by decide +kernel
theorem dX10_solveGame_108 : decode cX10_solveGame 108 = .ok (.iload_n 2, 1) := by decide +kernel
theorem dX10_solveGame_109 : decode cX10_solveGame 109 = .ok (.imul, 1) := by decide +kernel
theorem dX10_solveGame_110 : decode cX10_solveGame 110 = .ok (.iconst 1, 1) := by decide +kernel
theorem dX10_solveGame_111 : decode cX10_solveGame 111 = .ok (.iadd, 1) := by decide +kernel
theorem dX10_solveGame_112 : decode cX10_solveGame 112 = .ok (.aload_n 0, 1) := by decide +kernel
theorem dX10_solveGame_113 : decode cX10_solveGame 113 = .ok (.getfield 68, 3) := by decide +kernel
theorem dX10_solveGame_116 : decode cX10_solveGame 116 = .ok (.iconst 2, 1) := by decide +kernel
theorem dX10_solveGame_117 : decode cX10_solveGame 117 = .ok (.iload_n 2, 1) := by decide +kernel
theorem dX10_solveGame_118 : decode cX10_solveGame 118 = .ok (.imul, 1) := by decide +kernel
theorem dX10_solveGame_119 : decode cX10_solveGame 119 = .ok (.iconst 1, 1) := by decide +kernel
theorem dX10_solveGame_120 : decode cX10_solveGame 120 = .ok (.iadd, 1) := by decide +kernel
theorem dX10_solveGame_121 : decode cX10_solveGame 121 = .ok (.baload, 1) := by decide +kernel
theorem dX10_solveGame_122 : decode cX10_solveGame 122 = .ok (.ifCond .eq 18, 3) := by decide +kernel
theorem dX10_solveGame_125 : decode cX10_solveGame 125 = .ok (.aload_n 0, 1) := by decide +kernel
theorem dX10_solveGame_126 : decode cX10_solveGame 126 = .ok (.getfield 68, 3) := by decide +kernel
theorem dX10_solveGame_129 : decode cX10_solveGame 129 = .ok (.iconst 2, 1) := by decide +kernel
theorem dX10_solveGame_130 : decode cX10_solveGame 130 = .ok (.iload_n 2, 1) := by decide +kernel
theorem dX10_solveGame_131 : decode cX10_solveGame 131 = .ok (.imul, 1) := by decide +kernel
theorem dX10_solveGame_132 : decode cX10_solveGame 132 = .ok (.baload, 1) := by decide +kernel
theorem dX10_solveGame_133 : decode cX10_solveGame 133 = .ok (.ifCond .ne 7, 3) := by decide +kernel
theorem dX10_solveGame_136 : decode cX10_solveGame 136 = .ok (.iload_n 3, 1) := by decide +kernel
theorem dX10_solveGame_137 : decode cX10_solveGame 137 = .ok (.goto 5, 3) := by decide +kernel
theorem dX10_solveGame_140 : decode cX10_solveGame 140 = .ok (.iload 4, 2) := by decide +kernel
theorem dX10_solveGame_142 : decode cX10_solveGame 142 = .ok (.iastore, 1) := by decide +kernel
theorem dX10_solveGame_143 : decode cX10_solveGame 143 = .ok (.iinc 2 1, 3) := by decide +kernel
theorem dX10_solveGame_146 : decode cX10_solveGame 146 = .ok (.goto (-134), 3) := by decide +kernel
theorem dX10_solveGame_149 : decode cX10_solveGame 149 = .ok (.iinc 1 1, 3) := by decide +kernel
theorem dX10_solveGame_152 : decode cX10_solveGame 152 = .ok (.goto (-150), 3) := by decide +kernel
theorem dX10_solveGame_155 : decode cX10_solveGame 155 = .ok (.return_, 1) := by decide +kernel
theorem dX10_game_0 : decode cX10_game 0 = .ok (.aload_n 0, 1) := by decide +kernel
theorem dX10_game_1 : decode cX10_game 1 = .ok (.iconst 0, 1) := by decide +kernel
theorem dX10_game_2 : decode cX10_game 2 = .ok (.putfield 99, 3) := by decide +kernel
theorem dX10_game_5 : decode cX10_game 5 = .ok (.iload_n 1, 1) := by decide +kernel
theorem dX10_game_6 : decode cX10_game 6 = .ok (.i2l, 1) := by decide +kernel
theorem dX10_game_7 : decode cX10_game 7 = .ok (.lconst 0, 1) := by decide +kernel
theorem dX10_game_8 : decode cX10_game 8 = .ok (.lconst 1, 1) := by decide +kernel
theorem dX10_game_9 : decode cX10_game 9 = .ok (.invokestatic 106, 3) := by decide +kernel
theorem dX10_game_12 : decode cX10_game 12 = .ok (.ifCond .ne 5, 3) := by decide +kernel
theorem dX10_game_15 : decode cX10_game 15 = .ok (.iconst (-1), 1) := by decide +kernel
theorem dX10_game_16 : decode cX10_game 16 = .ok (.ireturn, 1) := by decide +kernel
theorem dX10_game_17 : decode cX10_game 17 = .ok (.aload_n 0, 1) := by decide +kernel
theorem dX10_game_18 : decode cX10_game 18 = .ok (.getfield 110, 3) := by decide +kernel
theorem dX10_game_21 : decode cX10_game 21 = .ok (.iconst 2, 1) := by decide +kernel
theorem dX10_game_22 : decode cX10_game 22 = .ok (.if_icmp .ge 6, 3) := by decide +kernel
theorem dX10_game_25 : decode cX10_game 25 = .ok (.bipush (-3), 2) := by decide +kernel
theorem dX10_game_27 : decode cX10_game 27 = .ok (.ireturn, 1) := by decide +kernel
theorem dX10_game_28 : decode cX10_game 28 = .ok (.aload_n 0, 1) := by decide +kernel
theorem dX10_game_29 : decode cX10_game 29 = .ok (.invokevirtual 298, 3) := by decide +kernel
theorem dX10_game_32 : decode cX10_game 32 = .ok (.iload_n 1, 1) := by decide +kernel
theorem dX10_game_33 : decode cX10_game 33 = .ok (.ifCond .ne 18, 3) := by decide +kernel
theorem dX10_game_36 : decode cX10_game 36 = .ok (.aload_n 0, 1) := by decide +kernel
theorem dX10_game_37 : decode cX10_game 37 = .ok (.getfield 58, 3) := by decide +kernel
theorem dX10_game_40 : decode cX10_game 40 = .ok (.iconst 0, 1) := by decide +kernel
theorem dX10_game_41 : decode cX10_game 41 = .ok (.baload, 1) := by decide +kernel
theorem dX10_game_42 : decode cX10_game 42 = .ok (.ifCond .eq 7, 3) := by decide +kernel
theorem dX10_game_45 : decode cX10_game 45 = .ok (.iconst 1, 1) := by decide +kernel
theorem dX10_game_46 : decode cX10_game 46 = .ok (.goto 4, 3) := by decide +kernel
theorem dX10_game_49 : decode cX10_game 49 = .ok (.iconst 0, 1) := by decide +kernel
theorem dX10_game_50 : decode cX10_game 50 = .ok (.ireturn, 1) := by decide +kernel
theorem dX10_game_51 : decode cX10_game 51 = .ok (.aload_n 0, 1) := by decide +kernel
theorem dX10_game_52 : decode cX10_game 52 = .ok (.iconst 0, 1) := by decide +kernel
theorem dX10_game_53 : decode cX10_game 53 = .ok (.invokevirtual 289, 3) := by decide +kernel
theorem dX10_game_56 : decode cX10_game 56 = .ok (.iconst 1, 1) := by decide +kernel
theorem dX10_game_57 : decode cX10_game 57 = .ok (.istore_n 2, 1) := by decide +kernel
theorem dX10_game_58 : decode cX10_game 58 = .ok (.iconst 0, 1) := by decide +kernel
theorem dX10_game_59 : decode cX10_game 59 = .ok (.istore_n 3, 1) := by decide +kernel
theorem dX10_game_60 : decode cX10_game 60 = .ok (.iload_n 3, 1) := by decide +kernel
theorem dX10_game_61 : decode cX10_game 61 = .ok (.aload_n 0, 1) := by decide +kernel
theorem dX10_game_62 : decode cX10_game 62 = .ok (.getfield 103, 3) := by decide +kernel
theorem dX10_game_65 : decode cX10_game 65 = .ok (.if_icmp .ge 37, 3) := by decide +kernel
theorem dX10_game_68 : decode cX10_game 68 = .ok (.aload_n 0, 1) := by decide +kernel
theorem dX10_game_69 : decode cX10_game 69 = .ok (.iload_n 3, 1) := by decide +kernel
theorem dX10_game_70 : decode cX10_game 70 = .ok (.iconst 0, 1) := by decide +kernel
theorem dX10_game_71 : decode cX10_game 71 = .ok (.invokevirtual 286, 3) := by decide +kernel
theorem dX10_game_74 : decode cX10_game 74 = .ok (.ifCond .eq 18, 3) := by decide +kernel
theorem dX10_game_77 : decode cX10_game 77 = .ok (.aload_n 0, 1) := by decide +kernel
theorem dX10_game_78 : decode cX10_game 78 = .ok (.getfield 58, 3) := by decide +kernel
theorem dX10_game_81 : decode cX10_game 81 = .ok (.iconst 2, 1) := by decide +kernel
theorem dX10_game_82 : decode cX10_game 82 = .ok (.iload_n 2, 1) := by decide +kernel
theorem dX10_game_83 : decode cX10_game 83 = .ok (.imul, 1) := by decide +kernel
theorem dX10_game_84 : decode cX10_game 84 = .ok (.iconst 1, 1) := by decide +kernel
theorem dX10_game_85 : decode cX10_game 85 = .ok (.iadd, 1) := by decide +kernel
theorem dX10_game_86 : decode cX10_game 86 = .ok (.baload, 1) := by decide +kernel
theorem dX10_game_87 : decode cX10_game 87 = .ok (.ifCond .ne 5, 3) := by decide +kernel
theorem dX10_game_90 : decode cX10_game 90 = .ok (.iload_n 3, 1) := by decide +kernel
theorem dX10_game_91 : decode cX10_game 91 = .ok (.ireturn, 1) := by decide +kernel
theorem dX10_game_92 : decode cX10_game 92 = .ok (.iload_n 2, 1) := by decide +kernel
theorem dX10_game_93 : decode cX10_game 93 = .ok (.iconst 3, 1) := by decide +kernel
theorem dX10_game_94 : decode cX10_game 94 = .ok (.imul, 1) := by decide +kernel
theorem dX10_game_95 : decode cX10_game 95 = .ok (.istore_n 2, 1) := by decide +kernel
theorem dX10_game_96 : decode cX10_game 96 = .ok (.iinc 3 1, 3) := by decide +kernel
theorem dX10_game_99 : decode cX10_game 99 = .ok (.goto (-39), 3) := by decide +kernel
theorem dX10_game_102 : decode cX10_game 102 = .ok (.bipush (-4), 2) := by decide +kernel
theorem dX10_game_104 : decode cX10_game 104 = .ok (.ireturn, 1) := by decide +kernel
theorem dX10_value_0 : decode cX10_value 0 = .ok (.aload_n 0, 1) := by decide +kernel
theorem dX10_value_1 : decode cX10_value 1 = .ok (.iconst 0, 1) := by decide +kernel
theorem dX10_value_2 : decode cX10_value 2 = .ok (.putfield 99, 3) := by decide +kernel
theorem dX10_value_5 : decode cX10_value 5 = .ok (.aload_n 0, 1) := by decide +kernel
theorem dX10_value_6 : decode cX10_value 6 = .ok (.getfield 110, 3) := by decide +kernel
theorem dX10_value_9 : decode cX10_value 9 = .ok (.iconst 2, 1) := by decide +kernel
theorem dX10_value_10 : decode cX10_value 10 = .ok (.if_icmp .ge 7, 3) := by decide +kernel
theorem dX10_value_13 : decode cX10_value 13 = .ok (.ldc_w 301, 3) := by decide +kernel
theorem dX10_value_16 : decode cX10_value 16 = .ok (.ireturn, 1) := by decide +kernel
theorem dX10_value_17 : decode cX10_value 17 = .ok (.aload_n 0, 1) := by decide +kernel
theorem dX10_value_18 : decode cX10_value 18 = .ok (.invokevirtual 298, 3) := by decide +kernel
theorem dX10_value_21 : decode cX10_value 21 = .ok (.aload_n 0, 1) := by decide +kernel
theorem dX10_value_22 : decode cX10_value 22 = .ok (.getfield 62, 3) := by decide +kernel
theorem dX10_value_25 : decode cX10_value 25 = .ok (.iconst 0, 1) := by decide +kernel
theorem dX10_value_26 : decode cX10_value 26 = .ok (.iaload, 1) := by decide +kernel
theorem dX10_value_27 : decode cX10_value 27 = .ok (.ireturn, 1) := by decide +kernel
theorem dX10_doClash_0 : decode cX10_doClash 0 = .ok (.aload_n 0, 1) := by decide +kernel
theorem dX10_doClash_1 : decode cX10_doClash 1 = .ok (.getfield 92, 3) := by decide +kernel
theorem dX10_doClash_4 : decode cX10_doClash 4 = .ok (.bipush 100, 2) := by decide +kernel
theorem dX10_doClash_6 : decode cX10_doClash 6 = .ok (.iload_n 1, 1) := by decide +kernel
theorem dX10_doClash_7 : decode cX10_doClash 7 = .ok (.imul, 1) := by decide +kernel
theorem dX10_doClash_8 : decode cX10_doClash 8 = .ok (.iconst 3, 1) := by decide +kernel
theorem dX10_doClash_9 : decode cX10_doClash 9 = .ok (.iload_n 2, 1) := by decide +kernel
theorem dX10_doClash_10 : decode cX10_doClash 10 = .ok (.imul, 1) := by decide +kernel
theorem dX10_doClash_11 : decode cX10_doClash 11 = .ok (.iadd, 1) := by decide +kernel
theorem dX10_doClash_12 : decode cX10_doClash 12 = .ok (.laload, 1) := by decide +kernel
theorem dX10_doClash_13 : decode cX10_doClash 13 = .ok (.lstore 4, 2) := by decide +kernel
theorem dX10_doClash_15 : decode cX10_doClash 15 = .ok (.aload_n 0, 1) := by decide +kernel
theorem dX10_doClash_16 : decode cX10_doClash 16 = .ok (.getfield 92, 3) := by decide +kernel
theorem dX10_doClash_19 : decode cX10_doClash 19 = .ok (.bipush 100, 2) := by decide +kernel
theorem dX10_doClash_21 : decode cX10_doClash 21 = .ok (.iload_n 1, 1) := by decide +kernel
theorem dX10_doClash_22 : decode cX10_doClash 22 = .ok (.imul, 1) := by decide +kernel
theorem dX10_doClash_23 : decode cX10_doClash 23 = .ok (.iconst 3, 1) := by decide +kernel
theorem dX10_doClash_24 : decode cX10_doClash 24 = .ok (.iload_n 3, 1) := by decide +kernel
theorem dX10_doClash_25 : decode cX10_doClash 25 = .ok (.imul, 1) := by decide +kernel
theorem dX10_doClash_26 : decode cX10_doClash 26 = .ok (.iadd, 1) := by decide +kernel
theorem dX10_doClash_27 : decode cX10_doClash 27 = .ok (.laload, 1) := by decide +kernel
theorem dX10_doClash_28 : decode cX10_doClash 28 = .ok (.lstore 6, 2) := by decide +kernel
theorem dX10_doClash_30 : decode cX10_doClash 30 = .ok (.aload_n 0, 1) := by decide +kernel
theorem dX10_doClash_31 : decode cX10_doClash 31 = .ok (.getfield 92, 3) := by decide +kernel
theorem dX10_doClash_34 : decode cX10_doClash 34 = .ok (.bipush 100, 2) := by decide +kernel
theorem dX10_doClash_36 : decode cX10_doClash 36 = .ok (.iload_n 1, 1) := by decide +kernel
theorem dX10_doClash_37 : decode cX10_doClash 37 = .ok (.imul, 1) := by decide +kernel
theorem dX10_doClash_38 : decode cX10_doClash 38 = .ok (.iconst 3, 1) := by decide +kernel
theorem dX10_doClash_39 : decode cX10_doClash 39 = .ok (.iload_n 2, 1) := by decide +kernel
theorem dX10_doClash_40 : decode cX10_doClash 40 = .ok (.imul, 1) := by decide +kernel
theorem dX10_doClash_41 : decode cX10_doClash 41 = .ok (.iadd, 1) := by decide +kernel
theorem dX10_doClash_42 : decode cX10_doClash 42 = .ok (.iconst 1, 1) := by decide +kernel
theorem dX10_doClash_43 : decode cX10_doClash 43 = .ok (.iadd, 1) := by decide +kernel
theorem dX10_doClash_44 : decode cX10_doClash 44 = .ok (.laload, 1) := by decide +kernel
theorem dX10_doClash_45 : decode cX10_doClash 45 = .ok (.l2i, 1) := by decide +kernel
theorem dX10_doClash_46 : decode cX10_doClash 46 = .ok (.istore 8, 2) := by decide +kernel
theorem dX10_doClash_48 : decode cX10_doClash 48 = .ok (.aload_n 0, 1) := by decide +kernel
theorem dX10_doClash_49 : decode cX10_doClash 49 = .ok (.getfield 92, 3) := by decide +kernel
theorem dX10_doClash_52 : decode cX10_doClash 52 = .ok (.bipush 100, 2) := by decide +kernel
theorem dX10_doClash_54 : decode cX10_doClash 54 = .ok (.iload_n 1, 1) := by decide +kernel
theorem dX10_doClash_55 : decode cX10_doClash 55 = .ok (.imul, 1) := by decide +kernel
theorem dX10_doClash_56 : decode cX10_doClash 56 = .ok (.iconst 3, 1) := by decide +kernel
theorem dX10_doClash_57 : decode cX10_doClash 57 = .ok (.iload_n 3, 1) := by decide +kernel
theorem dX10_doClash_58 : decode cX10_doClash 58 = .ok (.imul, 1) := by decide +kernel
theorem dX10_doClash_59 : decode cX10_doClash 59 = .ok (.iadd, 1) := by decide +kernel
theorem dX10_doClash_60 : decode cX10_doClash 60 = .ok (.iconst 1, 1) := by decide +kernel
theorem dX10_doClash_61 : decode cX10_doClash 61 = .ok (.iadd, 1) := by decide +kernel
theorem dX10_doClash_62 : decode cX10_doClash 62 = .ok (.laload, 1) := by decide +kernel
theorem dX10_doClash_63 : decode cX10_doClash 63 = .ok (.l2i, 1) := by decide +kernel
theorem dX10_doClash_64 : decode cX10_doClash 64 = .ok (.istore 9, 2) := by decide +kernel
theorem dX10_doClash_66 : decode cX10_doClash 66 = .ok (.aload_n 0, 1) := by decide +kernel
theorem dX10_doClash_67 : decode cX10_doClash 67 = .ok (.getfield 92, 3) := by decide +kernel
theorem dX10_doClash_70 : decode cX10_doClash 70 = .ok (.bipush 100, 2) := by decide +kernel
theorem dX10_doClash_72 : decode cX10_doClash 72 = .ok (.iload_n 1, 1) := by decide +kernel
theorem dX10_doClash_73 : decode cX10_doClash 73 = .ok (.imul, 1) := by decide +kernel
theorem dX10_doClash_74 : decode cX10_doClash 74 = .ok (.iconst 3, 1) := by decide +kernel
theorem dX10_doClash_75 : decode cX10_doClash 75 = .ok (.iload_n 2, 1) := by decide +kernel
theorem dX10_doClash_76 : decode cX10_doClash 76 = .ok (.imul, 1) := by decide +kernel
theorem dX10_doClash_77 : decode cX10_doClash 77 = .ok (.iadd, 1) := by decide +kernel
theorem dX10_doClash_78 : decode cX10_doClash 78 = .ok (.iconst 2, 1) := by decide +kernel
theorem dX10_doClash_79 : decode cX10_doClash 79 = .ok (.iadd, 1) := by decide +kernel
theorem dX10_doClash_80 : decode cX10_doClash 80 = .ok (.laload, 1) := by decide +kernel
theorem dX10_doClash_81 : decode cX10_doClash 81 = .ok (.aload_n 0, 1) := by decide +kernel
theorem dX10_doClash_82 : decode cX10_doClash 82 = .ok (.getfield 92, 3) := by decide +kernel
theorem dX10_doClash_85 : decode cX10_doClash 85 = .ok (.bipush 100, 2) := by decide +kernel
theorem dX10_doClash_87 : decode cX10_doClash 87 = .ok (.iload_n 1, 1) := by decide +kernel
theorem dX10_doClash_88 : decode cX10_doClash 88 = .ok (.imul, 1) := by decide +kernel
theorem dX10_doClash_89 : decode cX10_doClash 89 = .ok (.iconst 3, 1) := by decide +kernel
theorem dX10_doClash_90 : decode cX10_doClash 90 = .ok (.iload_n 3, 1) := by decide +kernel
theorem dX10_doClash_91 : decode cX10_doClash 91 = .ok (.imul, 1) := by decide +kernel
theorem dX10_doClash_92 : decode cX10_doClash 92 = .ok (.iadd, 1) := by decide +kernel
theorem dX10_doClash_93 : decode cX10_doClash 93 = .ok (.iconst 2, 1) := by decide +kernel
theorem dX10_doClash_94 : decode cX10_doClash 94 = .ok (.iadd, 1) := by decide +kernel
theorem dX10_doClash_95 : decode cX10_doClash 95 = .ok (.laload, 1) := by decide +kernel
theorem dX10_doClash_96 : decode cX10_doClash 96 = .ok (.lcmp, 1) := by decide +kernel
theorem dX10_doClash_97 : decode cX10_doClash 97 = .ok (.ifCond .ne 7, 3) := by decide +kernel
theorem dX10_doClash_100 : decode cX10_doClash 100 = .ok (.iconst 1, 1) := by decide +kernel
theorem dX10_doClash_101 : decode cX10_doClash 101 = .ok (.goto 4, 3) := by decide +kernel
theorem dX10_doClash_104 : decode cX10_doClash 104 = .ok (.iconst 0, 1) := by decide +kernel
theorem dX10_doClash_105 : decode cX10_doClash 105 = .ok (.istore 10, 2) := by decide +kernel
theorem dX10_doClash_107 : decode cX10_doClash 107 = .ok (.iload 10, 2) := by decide +kernel
theorem dX10_doClash_109 : decode cX10_doClash 109 = .ok (.ifCond .eq 43, 3) := by decide +kernel
theorem dX10_doClash_112 : decode cX10_doClash 112 = .ok (.lload 4, 2) := by decide +kernel
theorem dX10_doClash_114 : decode cX10_doClash 114 = .ok (.lload 6, 2) := by decide +kernel
theorem dX10_doClash_116 : decode cX10_doClash 116 = .ok (.lcmp, 1) := by decide +kernel
theorem dX10_doClash_117 : decode cX10_doClash 117 = .ok (.ifCond .ne 24, 3) := by decide +kernel
theorem dX10_doClash_120 : decode cX10_doClash 120 = .ok (.iload 8, 2) := by decide +kernel
theorem dX10_doClash_122 : decode cX10_doClash 122 = .ok (.iload 9, 2) := by decide +kernel
theorem dX10_doClash_124 : decode cX10_doClash 124 = .ok (.if_icmp .eq 28, 3) := by decide +kernel
theorem dX10_doClash_127 : decode cX10_doClash 127 = .ok (.aload_n 0, 1) := by decide +kernel
theorem dX10_doClash_128 : decode cX10_doClash 128 = .ok (.iload 8, 2) := by decide +kernel
theorem dX10_doClash_130 : decode cX10_doClash 130 = .ok (.iload 9, 2) := by decide +kernel
theorem dX10_doClash_132 : decode cX10_doClash 132 = .ok (.invokevirtual 119, 3) := by decide +kernel
theorem dX10_doClash_135 : decode cX10_doClash 135 = .ok (.ifCond .eq 17, 3) := by decide +kernel
theorem dX10_doClash_138 : decode cX10_doClash 138 = .ok (.goto 10, 3) := by decide +kernel
theorem dX10_doClash_141 : decode cX10_doClash 141 = .ok (.iload 8, 2) := by decide +kernel
theorem dX10_doClash_143 : decode cX10_doClash 143 = .ok (.iload 9, 2) := by decide +kernel
theorem dX10_doClash_145 : decode cX10_doClash 145 = .ok (.if_icmp .ne 7, 3) := by decide +kernel
theorem dX10_doClash_148 : decode cX10_doClash 148 = .ok (.iconst 1, 1) := by decide +kernel
theorem dX10_doClash_149 : decode cX10_doClash 149 = .ok (.goto 4, 3) := by decide +kernel
theorem dX10_doClash_152 : decode cX10_doClash 152 = .ok (.iconst 0, 1) := by decide +kernel
theorem dX10_doClash_153 : decode cX10_doClash 153 = .ok (.ireturn, 1) := by decide +kernel
theorem dX10_ones_0 : decode cX10_ones 0 = .ok (.iconst 0, 1) := by decide +kernel
theorem dX10_ones_1 : decode cX10_ones 1 = .ok (.istore_n 1, 1) := by decide +kernel
theorem dX10_ones_2 : decode cX10_ones 2 = .ok (.iconst 0, 1) := by decide +kernel
theorem dX10_ones_3 : decode cX10_ones 3 = .ok (.istore_n 2, 1) := by decide +kernel
theorem dX10_ones_4 : decode cX10_ones 4 = .ok (.iload_n 2, 1) := by decide +kernel
theorem dX10_ones_5 : decode cX10_ones 5 = .ok (.bipush 8, 2) := by decide +kernel
theorem dX10_ones_7 : decode cX10_ones 7 = .ok (.if_icmp .ge 17, 3) := by decide +kernel
theorem dX10_ones_10 : decode cX10_ones 10 = .ok (.iload_n 1, 1) := by decide +kernel
theorem dX10_ones_11 : decode cX10_ones 11 = .ok (.iload_n 0, 1) := by decide +kernel
theorem dX10_ones_12 : decode cX10_ones 12 = .ok (.iload_n 2, 1) := by decide +kernel
theorem dX10_ones_13 : decode cX10_ones 13 = .ok (.ishr, 1) := by decide +kernel
theorem dX10_ones_14 : decode cX10_ones 14 = .ok (.iconst 1, 1) := by decide +kernel
theorem dX10_ones_15 : decode cX10_ones 15 = .ok (.iand, 1) := by decide +kernel
theorem dX10_ones_16 : decode cX10_ones 16 = .ok (.iadd, 1) := by decide +kernel
theorem dX10_ones_17 : decode cX10_ones 17 = .ok (.istore_n 1, 1) := by decide +kernel
theorem dX10_ones_18 : decode cX10_ones 18 = .ok (.iinc 2 1, 3) := by decide +kernel
theorem dX10_ones_21 : decode cX10_ones 21 = .ok (.goto (-17), 3) := by decide +kernel
theorem dX10_ones_24 : decode cX10_ones 24 = .ok (.iload_n 1, 1) := by decide +kernel
theorem dX10_ones_25 : decode cX10_ones 25 = .ok (.ireturn, 1) := by decide +kernel
theorem dX10_deeds_0 : decode cX10_deeds 0 = .ok (.aload_n 0, 1) := by decide +kernel
theorem dX10_deeds_1 : decode cX10_deeds 1 = .ok (.iconst 0, 1) := by decide +kernel
theorem dX10_deeds_2 : decode cX10_deeds 2 = .ok (.putfield 99, 3) := by decide +kernel
theorem dX10_deeds_5 : decode cX10_deeds 5 = .ok (.iload_n 2, 1) := by decide +kernel
theorem dX10_deeds_6 : decode cX10_deeds 6 = .ok (.i2l, 1) := by decide +kernel
theorem dX10_deeds_7 : decode cX10_deeds 7 = .ok (.lconst 0, 1) := by decide +kernel
theorem dX10_deeds_8 : decode cX10_deeds 8 = .ok (.lconst 1, 1) := by decide +kernel
theorem dX10_deeds_9 : decode cX10_deeds 9 = .ok (.invokestatic 106, 3) := by decide +kernel
theorem dX10_deeds_12 : decode cX10_deeds 12 = .ok (.ifCond .eq 11, 3) := by decide +kernel
theorem dX10_deeds_15 : decode cX10_deeds 15 = .ok (.aload_n 0, 1) := by decide +kernel
theorem dX10_deeds_16 : decode cX10_deeds 16 = .ok (.iload_n 1, 1) := by decide +kernel
theorem dX10_deeds_17 : decode cX10_deeds 17 = .ok (.invokevirtual 184, 3) := by decide +kernel
theorem dX10_deeds_20 : decode cX10_deeds 20 = .ok (.ifCond .ge 23, 3) := by decide +kernel
theorem dX10_deeds_23 : decode cX10_deeds 23 = .ok (.iload_n 2, 1) := by decide +kernel
theorem dX10_deeds_24 : decode cX10_deeds 24 = .ok (.i2l, 1) := by decide +kernel
theorem dX10_deeds_25 : decode cX10_deeds 25 = .ok (.lconst 0, 1) := by decide +kernel
theorem dX10_deeds_26 : decode cX10_deeds 26 = .ok (.lconst 1, 1) := by decide +kernel
theorem dX10_deeds_27 : decode cX10_deeds 27 = .ok (.invokestatic 106, 3) := by decide +kernel
theorem dX10_deeds_30 : decode cX10_deeds 30 = .ok (.ifCond .ne 7, 3) := by decide +kernel
theorem dX10_deeds_33 : decode cX10_deeds 33 = .ok (.iconst (-1), 1) := by decide +kernel
theorem dX10_deeds_34 : decode cX10_deeds 34 = .ok (.goto 8, 3) := by decide +kernel
theorem dX10_deeds_37 : decode cX10_deeds 37 = .ok (.aload_n 0, 1) := by decide +kernel
theorem dX10_deeds_38 : decode cX10_deeds 38 = .ok (.iload_n 1, 1) := by decide +kernel
theorem dX10_deeds_39 : decode cX10_deeds 39 = .ok (.invokevirtual 184, 3) := by decide +kernel
theorem dX10_deeds_42 : decode cX10_deeds 42 = .ok (.ireturn, 1) := by decide +kernel
theorem dX10_deeds_43 : decode cX10_deeds 43 = .ok (.aload_n 0, 1) := by decide +kernel
theorem dX10_deeds_44 : decode cX10_deeds 44 = .ok (.getfield 89, 3) := by decide +kernel
theorem dX10_deeds_47 : decode cX10_deeds 47 = .ok (.iload_n 1, 1) := by decide +kernel
theorem dX10_deeds_48 : decode cX10_deeds 48 = .ok (.iaload, 1) := by decide +kernel
theorem dX10_deeds_49 : decode cX10_deeds 49 = .ok (.iconst 3, 1) := by decide +kernel
theorem dX10_deeds_50 : decode cX10_deeds 50 = .ok (.idiv, 1) := by decide +kernel
theorem dX10_deeds_51 : decode cX10_deeds 51 = .ok (.istore_n 3, 1) := by decide +kernel
theorem dX10_deeds_52 : decode cX10_deeds 52 = .ok (.aload_n 0, 1) := by decide +kernel
theorem dX10_deeds_53 : decode cX10_deeds 53 = .ok (.getfield 89, 3) := by decide +kernel
theorem dX10_deeds_56 : decode cX10_deeds 56 = .ok (.iload_n 1, 1) := by decide +kernel
theorem dX10_deeds_57 : decode cX10_deeds 57 = .ok (.iaload, 1) := by decide +kernel
theorem dX10_deeds_58 : decode cX10_deeds 58 = .ok (.iconst 3, 1) := by decide +kernel
theorem dX10_deeds_59 : decode cX10_deeds 59 = .ok (.irem, 1) := by decide +kernel
theorem dX10_deeds_60 : decode cX10_deeds 60 = .ok (.ifCond .ne 13, 3) := by decide +kernel
theorem dX10_deeds_63 : decode cX10_deeds 63 = .ok (.iload_n 3, 1) := by decide +kernel
theorem dX10_deeds_64 : decode cX10_deeds 64 = .ok (.bipush 8, 2) := by decide +kernel
theorem dX10_deeds_66 : decode cX10_deeds 66 = .ok (.if_icmp .gt 7, 3) := by decide +kernel
theorem dX10_deeds_69 : decode cX10_deeds 69 = .ok (.iconst 1, 1) := by decide +kernel
theorem dX10_deeds_70 : decode cX10_deeds 70 = .ok (.goto 4, 3) := by decide +kernel
theorem dX10_deeds_73 : decode cX10_deeds 73 = .ok (.iconst 0, 1) := by decide +kernel
theorem dX10_deeds_74 : decode cX10_deeds 74 = .ok (.istore 4, 2) := by decide +kernel
theorem dX10_deeds_76 : decode cX10_deeds 76 = .ok (.iconst 0, 1) := by decide +kernel
theorem dX10_deeds_77 : decode cX10_deeds 77 = .ok (.istore 5, 2) := by decide +kernel
theorem dX10_deeds_79 : decode cX10_deeds 79 = .ok (.iload 5, 2) := by decide +kernel
theorem dX10_deeds_81 : decode cX10_deeds 81 = .ok (.iload_n 3, 1) := by decide +kernel
theorem dX10_deeds_82 : decode cX10_deeds 82 = .ok (.if_icmp .ge 95, 3) := by decide +kernel
theorem dX10_deeds_85 : decode cX10_deeds 85 = .ok (.iload 4, 2) := by decide +kernel
theorem dX10_deeds_87 : decode cX10_deeds 87 = .ok (.ifCond .eq 90, 3) := by decide +kernel
theorem dX10_deeds_90 : decode cX10_deeds 90 = .ok (.bipush 100, 2) := by decide +kernel
theorem dX10_deeds_92 : decode cX10_deeds 92 = .ok (.iload_n 1, 1) := by decide +kernel
theorem dX10_deeds_93 : decode cX10_deeds 93 = .ok (.imul, 1) := by decide +kernel
theorem dX10_deeds_94 : decode cX10_deeds 94 = .ok (.iconst 3, 1) := by decide +kernel
theorem dX10_deeds_95 : decode cX10_deeds 95 = .ok (.iload 5, 2) := by decide +kernel
theorem dX10_deeds_97 : decode cX10_deeds 97 = .ok (.imul, 1) := by decide +kernel
theorem dX10_deeds_98 : decode cX10_deeds 98 = .ok (.iadd, 1) := by decide +kernel
theorem dX10_deeds_99 : decode cX10_deeds 99 = .ok (.istore 6, 2) := by decide +kernel
theorem dX10_deeds_101 : decode cX10_deeds 101 = .ok (.aload_n 0, 1) := by decide +kernel
theorem dX10_deeds_102 : decode cX10_deeds 102 = .ok (.getfield 92, 3) := by decide +kernel
theorem dX10_deeds_105 : decode cX10_deeds 105 = .ok (.iload 6, 2) := by decide +kernel
theorem dX10_deeds_107 : decode cX10_deeds 107 = .ok (.laload, 1) := by decide +kernel
theorem dX10_deeds_108 : decode cX10_deeds 108 = .ok (.lconst 0, 1) := by decide +kernel
theorem dX10_deeds_109 : decode cX10_deeds 109 = .ok (.aload_n 0, 1) := by decide +kernel
theorem dX10_deeds_110 : decode cX10_deeds 110 = .ok (.getfield 110, 3) := by decide +kernel
theorem dX10_deeds_113 : decode cX10_deeds 113 = .ok (.iconst 1, 1) := by decide +kernel
theorem dX10_deeds_114 : decode cX10_deeds 114 = .ok (.isub, 1) := by decide +kernel
theorem dX10_deeds_115 : decode cX10_deeds 115 = .ok (.i2l, 1) := by decide +kernel
theorem dX10_deeds_116 : decode cX10_deeds 116 = .ok (.invokestatic 106, 3) := by decide +kernel
theorem dX10_deeds_119 : decode cX10_deeds 119 = .ok (.ifCond .eq 49, 3) := by decide +kernel
theorem dX10_deeds_122 : decode cX10_deeds 122 = .ok (.aload_n 0, 1) := by decide +kernel
theorem dX10_deeds_123 : decode cX10_deeds 123 = .ok (.getfield 92, 3) := by decide +kernel
theorem dX10_deeds_126 : decode cX10_deeds 126 = .ok (.iload 6, 2) := by decide +kernel
theorem dX10_deeds_128 : decode cX10_deeds 128 = .ok (.iconst 1, 1) := by decide +kernel
theorem dX10_deeds_129 : decode cX10_deeds 129 = .ok (.iadd, 1) := by decide +kernel
theorem dX10_deeds_130 : decode cX10_deeds 130 = .ok (.laload, 1) := by decide +kernel
theorem dX10_deeds_131 : decode cX10_deeds 131 = .ok (.lconst 0, 1) := by decide +kernel
theorem dX10_deeds_132 : decode cX10_deeds 132 = .ok (.aload_n 0, 1) := by decide +kernel
theorem dX10_deeds_133 : decode cX10_deeds 133 = .ok (.getfield 103, 3) := by decide +kernel
theorem dX10_deeds_136 : decode cX10_deeds 136 = .ok (.iconst 1, 1) := by decide +kernel
theorem dX10_deeds_137 : decode cX10_deeds 137 = .ok (.isub, 1) := by decide +kernel
theorem dX10_deeds_138 : decode cX10_deeds 138 = .ok (.i2l, 1) := by decide +kernel
theorem dX10_deeds_139 : decode cX10_deeds 139 = .ok (.invokestatic 106, 3) := by decide +kernel
theorem dX10_deeds_142 : decode cX10_deeds 142 = .ok (.ifCond .eq 26, 3) := by decide +kernel
theorem dX10_deeds_145 : decode cX10_deeds 145 = .ok (.aload_n 0, 1) := by decide +kernel
theorem dX10_deeds_146 : decode cX10_deeds 146 = .ok (.getfield 92, 3) := by decide +kernel
theorem dX10_deeds_149 : decode cX10_deeds 149 = .ok (.iload 6, 2) := by decide +kernel
theorem dX10_deeds_151 : decode cX10_deeds 151 = .ok (.iconst 2, 1) := by decide +kernel
theorem dX10_deeds_152 : decode cX10_deeds 152 = .ok (.iadd, 1) := by decide +kernel
theorem dX10_deeds_153 : decode cX10_deeds 153 = .ok (.laload, 1) := by decide +kernel
theorem dX10_deeds_154 : decode cX10_deeds 154 = .ok (.lconst 0, 1) := by decide +kernel
theorem dX10_deeds_155 : decode cX10_deeds 155 = .ok (.ldc2_w 255, 3) := by decide +kernel
theorem dX10_deeds_158 : decode cX10_deeds 158 = .ok (.invokestatic 106, 3) := by decide +kernel
theorem dX10_deeds_161 : decode cX10_deeds 161 = .ok (.ifCond .eq 7, 3) := by decide +kernel
theorem dX10_deeds_164 : decode cX10_deeds 164 = .ok (.iconst 1, 1) := by decide +kernel
theorem dX10_deeds_165 : decode cX10_deeds 165 = .ok (.goto 4, 3) := by decide +kernel
theorem dX10_deeds_168 : decode cX10_deeds 168 = .ok (.iconst 0, 1) := by decide +kernel
theorem dX10_deeds_169 : decode cX10_deeds 169 = .ok (.istore 4, 2) := by decide +kernel
theorem dX10_deeds_171 : decode cX10_deeds 171 = .ok (.iinc 5 1, 3) := by decide +kernel
theorem dX10_deeds_174 : decode cX10_deeds 174 = .ok (.goto (-95), 3) := by decide +kernel
theorem dX10_deeds_177 : decode cX10_deeds 177 = .ok (.iload 4, 2) := by decide +kernel
theorem dX10_deeds_179 : decode cX10_deeds 179 = .ok (.ifCond .ne 6, 3) := by decide +kernel
theorem dX10_deeds_182 : decode cX10_deeds 182 = .ok (.bipush (-13), 2) := by decide +kernel
theorem dX10_deeds_184 : decode cX10_deeds 184 = .ok (.ireturn, 1) := by decide +kernel
theorem dX10_deeds_185 : decode cX10_deeds 185 = .ok (.iconst 1, 1) := by decide +kernel
theorem dX10_deeds_186 : decode cX10_deeds 186 = .ok (.iload_n 3, 1) := by decide +kernel
theorem dX10_deeds_187 : decode cX10_deeds 187 = .ok (.ishl, 1) := by decide +kernel
theorem dX10_deeds_188 : decode cX10_deeds 188 = .ok (.iconst 1, 1) := by decide +kernel
theorem dX10_deeds_189 : decode cX10_deeds 189 = .ok (.isub, 1) := by decide +kernel
theorem dX10_deeds_190 : decode cX10_deeds 190 = .ok (.istore 5, 2) := by decide +kernel
theorem dX10_deeds_192 : decode cX10_deeds 192 = .ok (.iconst 0, 1) := by decide +kernel
theorem dX10_deeds_193 : decode cX10_deeds 193 = .ok (.istore 6, 2) := by decide +kernel
theorem dX10_deeds_195 : decode cX10_deeds 195 = .ok (.iload 6, 2) := by decide +kernel
theorem dX10_deeds_197 : decode cX10_deeds 197 = .ok (.iconst 1, 1) := by decide +kernel
theorem dX10_deeds_198 : decode cX10_deeds 198 = .ok (.iload_n 3, 1) := by decide +kernel
theorem dX10_deeds_199 : decode cX10_deeds 199 = .ok (.ishl, 1) := by decide +kernel
theorem dX10_deeds_200 : decode cX10_deeds 200 = .ok (.if_icmp .ge 135, 3) := by decide +kernel
theorem dX10_deeds_203 : decode cX10_deeds 203 = .ok (.iload 6, 2) := by decide +kernel
theorem dX10_deeds_205 : decode cX10_deeds 205 = .ok (.invokestatic 302, 3) := by decide +kernel
theorem dX10_deeds_208 : decode cX10_deeds 208 = .ok (.iload 5, 2) := by decide +kernel
theorem dX10_deeds_210 : decode cX10_deeds 210 = .ok (.invokestatic 302, 3) := by decide +kernel
theorem dX10_deeds_213 : decode cX10_deeds 213 = .ok (.if_icmp .ge 7, 3) := by decide +kernel
theorem dX10_deeds_216 : decode cX10_deeds 216 = .ok (.iconst 1, 1) := by decide +kernel
theorem dX10_deeds_217 : decode cX10_deeds 217 = .ok (.goto 4, 3) := by decide +kernel
theorem dX10_deeds_220 : decode cX10_deeds 220 = .ok (.iconst 0, 1) := by decide +kernel
theorem dX10_deeds_221 : decode cX10_deeds 221 = .ok (.istore 7, 2) := by decide +kernel
theorem dX10_deeds_223 : decode cX10_deeds 223 = .ok (.iconst 0, 1) := by decide +kernel
theorem dX10_deeds_224 : decode cX10_deeds 224 = .ok (.istore 8, 2) := by decide +kernel
theorem dX10_deeds_226 : decode cX10_deeds 226 = .ok (.iload 8, 2) := by decide +kernel
theorem dX10_deeds_228 : decode cX10_deeds 228 = .ok (.iload_n 3, 1) := by decide +kernel
theorem dX10_deeds_229 : decode cX10_deeds 229 = .ok (.if_icmp .ge 86, 3) := by decide +kernel
theorem dX10_deeds_232 : decode cX10_deeds 232 = .ok (.iload 7, 2) := by decide +kernel
theorem dX10_deeds_234 : decode cX10_deeds 234 = .ok (.ifCond .eq 81, 3) := by decide +kernel
theorem dX10_deeds_237 : decode cX10_deeds 237 = .ok (.iconst 0, 1) := by decide +kernel
theorem dX10_deeds_238 : decode cX10_deeds 238 = .ok (.istore 9, 2) := by decide +kernel
theorem dX10_deeds_240 : decode cX10_deeds 240 = .ok (.iload 9, 2) := by decide +kernel
theorem dX10_deeds_242 : decode cX10_deeds 242 = .ok (.iload 8, 2) := by decide +kernel
theorem dX10_deeds_244 : decode cX10_deeds 244 = .ok (.if_icmp .ge 65, 3) := by decide +kernel
theorem dX10_deeds_247 : decode cX10_deeds 247 = .ok (.iload 6, 2) := by decide +kernel
theorem dX10_deeds_249 : decode cX10_deeds 249 = .ok (.iload 8, 2) := by decide +kernel
theorem dX10_deeds_251 : decode cX10_deeds 251 = .ok (.ishr, 1) := by decide +kernel
theorem dX10_deeds_252 : decode cX10_deeds 252 = .ok (.iconst 1, 1) := by decide +kernel
theorem dX10_deeds_253 : decode cX10_deeds 253 = .ok (.iand, 1) := by decide +kernel
theorem dX10_deeds_254 : decode cX10_deeds 254 = .ok (.ifCond .ne 17, 3) := by decide +kernel
theorem dX10_deeds_257 : decode cX10_deeds 257 = .ok (.iload 6, 2) := by decide +kernel
theorem dX10_deeds_259 : decode cX10_deeds 259 = .ok (.iload 9, 2) := by decide +kernel
theorem dX10_deeds_261 : decode cX10_deeds 261 = .ok (.ishr, 1) := by decide +kernel
theorem dX10_deeds_262 : decode cX10_deeds 262 = .ok (.iconst 1, 1) := by decide +kernel
theorem dX10_deeds_263 : decode cX10_deeds 263 = .ok (.iand, 1) := by decide +kernel
theorem dX10_deeds_264 : decode cX10_deeds 264 = .ok (.ifCond .ne 7, 3) := by decide +kernel
theorem dX10_deeds_267 : decode cX10_deeds 267 = .ok (.iconst 1, 1) := by decide +kernel
theorem dX10_deeds_268 : decode cX10_deeds 268 = .ok (.goto 4, 3) := by decide +kernel
theorem dX10_deeds_271 : decode cX10_deeds 271 = .ok (.iconst 0, 1) := by decide +kernel
theorem dX10_deeds_272 : decode cX10_deeds 272 = .ok (.istore 10, 2) := by decide +kernel
theorem dX10_deeds_274 : decode cX10_deeds 274 = .ok (.iload 7, 2) := by decide +kernel
theorem dX10_deeds_276 : decode cX10_deeds 276 = .ok (.ifCond .eq 24, 3) := by decide +kernel
theorem dX10_deeds_279 : decode cX10_deeds 279 = .ok (.iload 10, 2) := by decide +kernel
theorem dX10_deeds_281 : decode cX10_deeds 281 = .ok (.ifCond .eq 15, 3) := by decide +kernel
theorem dX10_deeds_284 : decode cX10_deeds 284 = .ok (.aload_n 0, 1) := by decide +kernel
theorem dX10_deeds_285 : decode cX10_deeds 285 = .ok (.iload_n 1, 1) := by decide +kernel
theorem dX10_deeds_286 : decode cX10_deeds 286 = .ok (.iload 8, 2) := by decide +kernel
theorem dX10_deeds_288 : decode cX10_deeds 288 = .ok (.iload 9, 2) := by decide +kernel
theorem dX10_deeds_290 : decode cX10_deeds 290 = .ok (.invokevirtual 305, 3) := by decide +kernel
theorem dX10_deeds_293 : decode cX10_deeds 293 = .ok (.ifCond .ne 7, 3) := by decide +kernel
theorem dX10_deeds_296 : decode cX10_deeds 296 = .ok (.iconst 1, 1) := by decide +kernel
theorem dX10_deeds_297 : decode cX10_deeds 297 = .ok (.goto 4, 3) := by decide +kernel
theorem dX10_deeds_300 : decode cX10_deeds 300 = .ok (.iconst 0, 1) := by decide +kernel
theorem dX10_deeds_301 : decode cX10_deeds 301 = .ok (.istore 7, 2) := by decide +kernel
theorem dX10_deeds_303 : decode cX10_deeds 303 = .ok (.iinc 9 1, 3) := by decide +kernel
theorem dX10_deeds_306 : decode cX10_deeds 306 = .ok (.goto (-66), 3) := by decide +kernel
theorem dX10_deeds_309 : decode cX10_deeds 309 = .ok (.iinc 8 1, 3) := by decide +kernel
theorem dX10_deeds_312 : decode cX10_deeds 312 = .ok (.goto (-86), 3) := by decide +kernel
theorem dX10_deeds_315 : decode cX10_deeds 315 = .ok (.iload 7, 2) := by decide +kernel
theorem dX10_deeds_317 : decode cX10_deeds 317 = .ok (.ifCond .eq 8, 3) := by decide +kernel
theorem dX10_deeds_320 : decode cX10_deeds 320 = .ok (.iload 6, 2) := by decide +kernel
theorem dX10_deeds_322 : decode cX10_deeds 322 = .ok (.goto 5, 3) := by decide +kernel
theorem dX10_deeds_325 : decode cX10_deeds 325 = .ok (.iload 5, 2) := by decide +kernel
theorem dX10_deeds_327 : decode cX10_deeds 327 = .ok (.istore 5, 2) := by decide +kernel
theorem dX10_deeds_329 : decode cX10_deeds 329 = .ok (.iinc 6 1, 3) := by decide +kernel
theorem dX10_deeds_332 : decode cX10_deeds 332 = .ok (.goto (-137), 3) := by decide +kernel
theorem dX10_deeds_335 : decode cX10_deeds 335 = .ok (.iload_n 2, 1) := by decide +kernel
theorem dX10_deeds_336 : decode cX10_deeds 336 = .ok (.ifCond .ne 8, 3) := by decide +kernel
theorem dX10_deeds_339 : decode cX10_deeds 339 = .ok (.iload 5, 2) := by decide +kernel
theorem dX10_deeds_341 : decode cX10_deeds 341 = .ok (.goto 8, 3) := by decide +kernel
theorem dX10_deeds_344 : decode cX10_deeds 344 = .ok (.iload 5, 2) := by decide +kernel
theorem dX10_deeds_346 : decode cX10_deeds 346 = .ok (.invokestatic 302, 3) := by decide +kernel
theorem dX10_deeds_349 : decode cX10_deeds 349 = .ok (.ireturn, 1) := by decide +kernel
theorem dX10_lots_0 : decode cX10_lots 0 = .ok (.aload_n 0, 1) := by decide +kernel
theorem dX10_lots_1 : decode cX10_lots 1 = .ok (.iconst 0, 1) := by decide +kernel
theorem dX10_lots_2 : decode cX10_lots 2 = .ok (.putfield 99, 3) := by decide +kernel
theorem dX10_lots_5 : decode cX10_lots 5 = .ok (.iload_n 2, 1) := by decide +kernel
theorem dX10_lots_6 : decode cX10_lots 6 = .ok (.i2l, 1) := by decide +kernel
theorem dX10_lots_7 : decode cX10_lots 7 = .ok (.lconst 0, 1) := by decide +kernel
theorem dX10_lots_8 : decode cX10_lots 8 = .ok (.lconst 1, 1) := by decide +kernel
theorem dX10_lots_9 : decode cX10_lots 9 = .ok (.invokestatic 106, 3) := by decide +kernel
theorem dX10_lots_12 : decode cX10_lots 12 = .ok (.ifCond .ne 5, 3) := by decide +kernel
theorem dX10_lots_15 : decode cX10_lots 15 = .ok (.iconst (-1), 1) := by decide +kernel
theorem dX10_lots_16 : decode cX10_lots 16 = .ok (.ireturn, 1) := by decide +kernel
theorem dX10_lots_17 : decode cX10_lots 17 = .ok (.iload_n 1, 1) := by decide +kernel
theorem dX10_lots_18 : decode cX10_lots 18 = .ok (.istore_n 3, 1) := by decide +kernel
theorem dX10_lots_19 : decode cX10_lots 19 = .ok (.aload_n 0, 1) := by decide +kernel
theorem dX10_lots_20 : decode cX10_lots 20 = .ok (.invokevirtual 204, 3) := by decide +kernel
theorem dX10_lots_23 : decode cX10_lots 23 = .ok (.iconst 0, 1) := by decide +kernel
theorem dX10_lots_24 : decode cX10_lots 24 = .ok (.istore 4, 2) := by decide +kernel
theorem dX10_lots_26 : decode cX10_lots 26 = .ok (.iload 4, 2) := by decide +kernel
theorem dX10_lots_28 : decode cX10_lots 28 = .ok (.aload_n 0, 1) := by decide +kernel
theorem dX10_lots_29 : decode cX10_lots 29 = .ok (.getfield 103, 3) := by decide +kernel
theorem dX10_lots_32 : decode cX10_lots 32 = .ok (.if_icmp .ge 96, 3) := by decide +kernel
theorem dX10_lots_35 : decode cX10_lots 35 = .ok (.aload_n 0, 1) := by decide +kernel
theorem dX10_lots_36 : decode cX10_lots 36 = .ok (.getfield 25, 3) := by decide +kernel
theorem dX10_lots_39 : decode cX10_lots 39 = .ok (.iload 4, 2) := by decide +kernel
theorem dX10_lots_41 : decode cX10_lots 41 = .ok (.iaload, 1) := by decide +kernel
theorem dX10_lots_42 : decode cX10_lots 42 = .ok (.ifCond .ne 80, 3) := by decide +kernel
theorem dX10_lots_45 : decode cX10_lots 45 = .ok (.iload_n 3, 1) := by decide +kernel
theorem dX10_lots_46 : decode cX10_lots 46 = .ok (.ldc_w 309, 3) := by decide +kernel
theorem dX10_lots_49 : decode cX10_lots 49 = .ok (.imul, 1) := by decide +kernel
theorem dX10_lots_50 : decode cX10_lots 50 = .ok (.sipush 12345, 3) := by decide +kernel
theorem dX10_lots_53 : decode cX10_lots 53 = .ok (.iadd, 1) := by decide +kernel
theorem dX10_lots_54 : decode cX10_lots 54 = .ok (.istore_n 3, 1) := by decide +kernel
theorem dX10_lots_55 : decode cX10_lots 55 = .ok (.iload_n 3, 1) := by decide +kernel
theorem dX10_lots_56 : decode cX10_lots 56 = .ok (.ldc_w 310, 3) := by decide +kernel
theorem dX10_lots_59 : decode cX10_lots 59 = .ok (.iand, 1) := by decide +kernel
theorem dX10_lots_60 : decode cX10_lots 60 = .ok (.ldc_w 311, 3) := by decide +kernel
theorem dX10_lots_63 : decode cX10_lots 63 = .ok (.idiv, 1) := by decide +kernel
theorem dX10_lots_64 : decode cX10_lots 64 = .ok (.aload_n 0, 1) := by decide +kernel
theorem dX10_lots_65 : decode cX10_lots 65 = .ok (.getfield 110, 3) := by decide +kernel
theorem dX10_lots_68 : decode cX10_lots 68 = .ok (.iconst 1, 1) := by decide +kernel
theorem dX10_lots_69 : decode cX10_lots 69 = .ok (.iadd, 1) := by decide +kernel
theorem dX10_lots_70 : decode cX10_lots 70 = .ok (.irem, 1) := by decide +kernel
theorem dX10_lots_71 : decode cX10_lots 71 = .ok (.istore 5, 2) := by decide +kernel
theorem dX10_lots_73 : decode cX10_lots 73 = .ok (.aload_n 0, 1) := by decide +kernel
theorem dX10_lots_74 : decode cX10_lots 74 = .ok (.getfield 28, 3) := by decide +kernel
theorem dX10_lots_77 : decode cX10_lots 77 = .ok (.iload 4, 2) := by decide +kernel
theorem dX10_lots_79 : decode cX10_lots 79 = .ok (.iload 5, 2) := by decide +kernel
theorem dX10_lots_81 : decode cX10_lots 81 = .ok (.aload_n 0, 1) := by decide +kernel
theorem dX10_lots_82 : decode cX10_lots 82 = .ok (.getfield 110, 3) := by decide +kernel
theorem dX10_lots_85 : decode cX10_lots 85 = .ok (.if_icmp .ne 7, 3) := by decide +kernel
theorem dX10_lots_88 : decode cX10_lots 88 = .ok (.iconst 0, 1) := by decide +kernel
theorem dX10_lots_89 : decode cX10_lots 89 = .ok (.goto 7, 3) := by decide +kernel
theorem dX10_lots_92 : decode cX10_lots 92 = .ok (.iload 5, 2) := by decide +kernel
theorem dX10_lots_94 : decode cX10_lots 94 = .ok (.iconst 1, 1) := by decide +kernel
theorem dX10_lots_95 : decode cX10_lots 95 = .ok (.iadd, 1) := by decide +kernel
theorem dX10_lots_96 : decode cX10_lots 96 = .ok (.iastore, 1) := by decide +kernel
theorem dX10_lots_97 : decode cX10_lots 97 = .ok (.aload_n 0, 1) := by decide +kernel
theorem dX10_lots_98 : decode cX10_lots 98 = .ok (.getfield 28, 3) := by decide +kernel
theorem dX10_lots_101 : decode cX10_lots 101 = .ok (.iload 4, 2) := by decide +kernel
theorem dX10_lots_103 : decode cX10_lots 103 = .ok (.aload_n 0, 1) := by decide +kernel
theorem dX10_lots_104 : decode cX10_lots 104 = .ok (.invokevirtual 210, 3) := by decide +kernel
theorem dX10_lots_107 : decode cX10_lots 107 = .ok (.ifCond .eq 13, 3) := by decide +kernel
theorem dX10_lots_110 : decode cX10_lots 110 = .ok (.aload_n 0, 1) := by decide +kernel
theorem dX10_lots_111 : decode cX10_lots 111 = .ok (.getfield 28, 3) := by decide +kernel
theorem dX10_lots_114 : decode cX10_lots 114 = .ok (.iload 4, 2) := by decide +kernel
theorem dX10_lots_116 : decode cX10_lots 116 = .ok (.iaload, 1) := by decide +kernel
theorem dX10_lots_117 : decode cX10_lots 117 = .ok (.goto 4, 3) := by decide +kernel
theorem dX10_lots_120 : decode cX10_lots 120 = .ok (.iconst 0, 1) := by decide +kernel
theorem dX10_lots_121 : decode cX10_lots 121 = .ok (.iastore, 1) := by decide +kernel
theorem dX10_lots_122 : decode cX10_lots 122 = .ok (.iinc 4 1, 3) := by decide +kernel
theorem dX10_lots_125 : decode cX10_lots 125 = .ok (.goto (-99), 3) := by decide +kernel
theorem dX10_lots_128 : decode cX10_lots 128 = .ok (.iconst 0, 1) := by decide +kernel
theorem dX10_lots_129 : decode cX10_lots 129 = .ok (.istore 4, 2) := by decide +kernel
theorem dX10_lots_131 : decode cX10_lots 131 = .ok (.iconst 0, 1) := by decide +kernel
theorem dX10_lots_132 : decode cX10_lots 132 = .ok (.istore 5, 2) := by decide +kernel
theorem dX10_lots_134 : decode cX10_lots 134 = .ok (.iload 5, 2) := by decide +kernel
theorem dX10_lots_136 : decode cX10_lots 136 = .ok (.aload_n 0, 1) := by decide +kernel
theorem dX10_lots_137 : decode cX10_lots 137 = .ok (.getfield 103, 3) := by decide +kernel
theorem dX10_lots_140 : decode cX10_lots 140 = .ok (.if_icmp .ge 29, 3) := by decide +kernel
theorem dX10_lots_143 : decode cX10_lots 143 = .ok (.iload 4, 2) := by decide +kernel
theorem dX10_lots_145 : decode cX10_lots 145 = .ok (.aload_n 0, 1) := by decide +kernel
theorem dX10_lots_146 : decode cX10_lots 146 = .ok (.getfield 28, 3) := by decide +kernel
theorem dX10_lots_149 : decode cX10_lots 149 = .ok (.iload 5, 2) := by decide +kernel
theorem dX10_lots_151 : decode cX10_lots 151 = .ok (.iaload, 1) := by decide +kernel
theorem dX10_lots_152 : decode cX10_lots 152 = .ok (.ifCond .le 7, 3) := by decide +kernel
theorem dX10_lots_155 : decode cX10_lots 155 = .ok (.iconst 1, 1) := by decide +kernel
theorem dX10_lots_156 : decode cX10_lots 156 = .ok (.goto 4, 3) := by decide +kernel
theorem dX10_lots_159 : decode cX10_lots 159 = .ok (.iconst 0, 1) := by decide +kernel
theorem dX10_lots_160 : decode cX10_lots 160 = .ok (.iadd, 1) := by decide +kernel
theorem dX10_lots_161 : decode cX10_lots 161 = .ok (.istore 4, 2) := by decide +kernel
theorem dX10_lots_163 : decode cX10_lots 163 = .ok (.iinc 5 1, 3) := by decide +kernel
theorem dX10_lots_166 : decode cX10_lots 166 = .ok (.goto (-32), 3) := by decide +kernel
theorem dX10_lots_169 : decode cX10_lots 169 = .ok (.iload_n 2, 1) := by decide +kernel
theorem dX10_lots_170 : decode cX10_lots 170 = .ok (.ifCond .ne 8, 3) := by decide +kernel
theorem dX10_lots_173 : decode cX10_lots 173 = .ok (.iload 4, 2) := by decide +kernel
theorem dX10_lots_175 : decode cX10_lots 175 = .ok (.goto 7, 3) := by decide +kernel
theorem dX10_lots_178 : decode cX10_lots 178 = .ok (.aload_n 0, 1) := by decide +kernel
theorem dX10_lots_179 : decode cX10_lots 179 = .ok (.invokevirtual 273, 3) := by decide +kernel
theorem dX10_lots_182 : decode cX10_lots 182 = .ok (.ireturn, 1) := by decide +kernel
theorem dX10_carry_0 : decode cX10_carry 0 = .ok (.aload_n 0, 1) := by decide +kernel
theorem dX10_carry_1 : decode cX10_carry 1 = .ok (.getfield 312, 3) := by decide +kernel
theorem dX10_carry_4 : decode cX10_carry 4 = .ok (.ifCond .eq 10, 3) := by decide +kernel
theorem dX10_carry_7 : decode cX10_carry 7 = .ok (.aload_n 1, 1) := by decide +kernel
theorem dX10_carry_8 : decode cX10_carry 8 = .ok (.aload_n 0, 1) := by decide +kernel
theorem dX10_carry_9 : decode cX10_carry 9 = .ok (.getfield 315, 3) := by decide +kernel
theorem dX10_carry_12 : decode cX10_carry 12 = .ok (.iload_n 2, 1) := by decide +kernel
theorem dX10_carry_13 : decode cX10_carry 13 = .ok (.iastore, 1) := by decide +kernel
theorem dX10_carry_14 : decode cX10_carry 14 = .ok (.aload_n 0, 1) := by decide +kernel
theorem dX10_carry_15 : decode cX10_carry 15 = .ok (.dup, 1) := by decide +kernel
theorem dX10_carry_16 : decode cX10_carry 16 = .ok (.getfield 315, 3) := by decide +kernel
theorem dX10_carry_19 : decode cX10_carry 19 = .ok (.iconst 1, 1) := by decide +kernel
theorem dX10_carry_20 : decode cX10_carry 20 = .ok (.iadd, 1) := by decide +kernel
theorem dX10_carry_21 : decode cX10_carry 21 = .ok (.putfield 315, 3) := by decide +kernel
theorem dX10_carry_24 : decode cX10_carry 24 = .ok (.aload_n 1, 1) := by decide +kernel
theorem dX10_carry_25 : decode cX10_carry 25 = .ok (.aload_n 0, 1) := by decide +kernel
theorem dX10_carry_26 : decode cX10_carry 26 = .ok (.getfield 315, 3) := by decide +kernel
theorem dX10_carry_29 : decode cX10_carry 29 = .ok (.iconst 1, 1) := by decide +kernel
theorem dX10_carry_30 : decode cX10_carry 30 = .ok (.isub, 1) := by decide +kernel
theorem dX10_carry_31 : decode cX10_carry 31 = .ok (.iaload, 1) := by decide +kernel
theorem dX10_carry_32 : decode cX10_carry 32 = .ok (.ireturn, 1) := by decide +kernel
theorem dX10_carryTo_0 : decode cX10_carryTo 0 = .ok (.aload_n 0, 1) := by decide +kernel
theorem dX10_carryTo_1 : decode cX10_carryTo 1 = .ok (.iconst 0, 1) := by decide +kernel
theorem dX10_carryTo_2 : decode cX10_carryTo 2 = .ok (.putfield 315, 3) := by decide +kernel
theorem dX10_carryTo_5 : decode cX10_carryTo 5 = .ok (.aload_n 0, 1) := by decide +kernel
theorem dX10_carryTo_6 : decode cX10_carryTo 6 = .ok (.iload_n 2, 1) := by decide +kernel
theorem dX10_carryTo_7 : decode cX10_carryTo 7 = .ok (.putfield 312, 3) := by decide +kernel
theorem dX10_carryTo_10 : decode cX10_carryTo 10 = .ok (.aload_n 0, 1) := by decide +kernel
theorem dX10_carryTo_11 : decode cX10_carryTo 11 = .ok (.aload_n 0, 1) := by decide +kernel
theorem dX10_carryTo_12 : decode cX10_carryTo 12 = .ok (.aload_n 1, 1) := by decide +kernel
theorem dX10_carryTo_13 : decode cX10_carryTo 13 = .ok (.aload_n 0, 1) := by decide +kernel
theorem dX10_carryTo_14 : decode cX10_carryTo 14 = .ok (.getfield 103, 3) := by decide +kernel
theorem dX10_carryTo_17 : decode cX10_carryTo 17 = .ok (.invokevirtual 318, 3) := by decide +kernel
theorem dX10_carryTo_20 : decode cX10_carryTo 20 = .ok (.putfield 103, 3) := by decide +kernel
theorem dX10_carryTo_23 : decode cX10_carryTo 23 = .ok (.aload_n 0, 1) := by decide +kernel
theorem dX10_carryTo_24 : decode cX10_carryTo 24 = .ok (.aload_n 0, 1) := by decide +kernel
theorem dX10_carryTo_25 : decode cX10_carryTo 25 = .ok (.aload_n 1, 1) := by decide +kernel
theorem dX10_carryTo_26 : decode cX10_carryTo 26 = .ok (.aload_n 0, 1) := by decide +kernel
theorem dX10_carryTo_27 : decode cX10_carryTo 27 = .ok (.getfield 113, 3) := by decide +kernel
theorem dX10_carryTo_30 : decode cX10_carryTo 30 = .ok (.invokevirtual 318, 3) := by decide +kernel
theorem dX10_carryTo_33 : decode cX10_carryTo 33 = .ok (.putfield 113, 3) := by decide +kernel
theorem dX10_carryTo_36 : decode cX10_carryTo 36 = .ok (.aload_n 0, 1) := by decide +kernel
theorem dX10_carryTo_37 : decode cX10_carryTo 37 = .ok (.aload_n 0, 1) := by decide +kernel
theorem dX10_carryTo_38 : decode cX10_carryTo 38 = .ok (.aload_n 1, 1) := by decide +kernel
theorem dX10_carryTo_39 : decode cX10_carryTo 39 = .ok (.aload_n 0, 1) := by decide +kernel
theorem dX10_carryTo_40 : decode cX10_carryTo 40 = .ok (.getfield 116, 3) := by decide +kernel
theorem dX10_carryTo_43 : decode cX10_carryTo 43 = .ok (.invokevirtual 318, 3) := by decide +kernel
theorem dX10_carryTo_46 : decode cX10_carryTo 46 = .ok (.putfield 116, 3) := by decide +kernel
theorem dX10_carryTo_49 : decode cX10_carryTo 49 = .ok (.aload_n 0, 1) := by decide +kernel
theorem dX10_carryTo_50 : decode cX10_carryTo 50 = .ok (.aload_n 0, 1) := by decide +kernel
theorem dX10_carryTo_51 : decode cX10_carryTo 51 = .ok (.aload_n 1, 1) := by decide +kernel
theorem dX10_carryTo_52 : decode cX10_carryTo 52 = .ok (.aload_n 0, 1) := by decide +kernel
theorem dX10_carryTo_53 : decode cX10_carryTo 53 = .ok (.getfield 110, 3) := by decide +kernel
theorem dX10_carryTo_56 : decode cX10_carryTo 56 = .ok (.invokevirtual 318, 3) := by decide +kernel
theorem dX10_carryTo_59 : decode cX10_carryTo 59 = .ok (.putfield 110, 3) := by decide +kernel
theorem dX10_carryTo_62 : decode cX10_carryTo 62 = .ok (.iconst 0, 1) := by decide +kernel
theorem dX10_carryTo_63 : decode cX10_carryTo 63 = .ok (.istore_n 3, 1) := by decide +kernel
theorem dX10_carryTo_64 : decode cX10_carryTo 64 = .ok (.iload_n 3, 1) := by decide +kernel
theorem dX10_carryTo_65 : decode cX10_carryTo 65 = .ok (.bipush 6, 2) := by decide +kernel
theorem dX10_carryTo_67 : decode cX10_carryTo 67 = .ok (.if_icmp .ge 43, 3) := by decide +kernel
theorem dX10_carryTo_70 : decode cX10_carryTo 70 = .ok (.aload_n 0, 1) := by decide +kernel
theorem dX10_carryTo_71 : decode cX10_carryTo 71 = .ok (.getfield 7, 3) := by decide +kernel
theorem dX10_carryTo_74 : decode cX10_carryTo 74 = .ok (.iload_n 3, 1) := by decide +kernel
theorem dX10_carryTo_75 : decode cX10_carryTo 75 = .ok (.aload_n 0, 1) := by decide +kernel
theorem dX10_carryTo_76 : decode cX10_carryTo 76 = .ok (.aload_n 1, 1) := by decide +kernel
theorem dX10_carryTo_77 : decode cX10_carryTo 77 = .ok (.aload_n 0, 1) := by decide +kernel
theorem dX10_carryTo_78 : decode cX10_carryTo 78 = .ok (.getfield 7, 3) := by decide +kernel
theorem dX10_carryTo_81 : decode cX10_carryTo 81 = .ok (.iload_n 3, 1) := by decide +kernel
theorem dX10_carryTo_82 : decode cX10_carryTo 82 = .ok (.iaload, 1) := by decide +kernel
theorem dX10_carryTo_83 : decode cX10_carryTo 83 = .ok (.invokevirtual 318, 3) := by decide +kernel
theorem dX10_carryTo_86 : decode cX10_carryTo 86 = .ok (.iastore, 1) := by decide +kernel
theorem dX10_carryTo_87 : decode cX10_carryTo 87 = .ok (.aload_n 0, 1) := by decide +kernel
theorem dX10_carryTo_88 : decode cX10_carryTo 88 = .ok (.getfield 25, 3) := by decide +kernel
theorem dX10_carryTo_91 : decode cX10_carryTo 91 = .ok (.iload_n 3, 1) := by decide +kernel
theorem dX10_carryTo_92 : decode cX10_carryTo 92 = .ok (.aload_n 0, 1) := by decide +kernel
theorem dX10_carryTo_93 : decode cX10_carryTo 93 = .ok (.aload_n 1, 1) := by decide +kernel
theorem dX10_carryTo_94 : decode cX10_carryTo 94 = .ok (.aload_n 0, 1) := by decide +kernel
theorem dX10_carryTo_95 : decode cX10_carryTo 95 = .ok (.getfield 25, 3) := by decide +kernel
theorem dX10_carryTo_98 : decode cX10_carryTo 98 = .ok (.iload_n 3, 1) := by decide +kernel
theorem dX10_carryTo_99 : decode cX10_carryTo 99 = .ok (.iaload, 1) := by decide +kernel
theorem dX10_carryTo_100 : decode cX10_carryTo 100 = .ok (.invokevirtual 318, 3) := by decide +kernel
theorem dX10_carryTo_103 : decode cX10_carryTo 103 = .ok (.iastore, 1) := by decide +kernel
theorem dX10_carryTo_104 : decode cX10_carryTo 104 = .ok (.iinc 3 1, 3) := by decide +kernel
theorem dX10_carryTo_107 : decode cX10_carryTo 107 = .ok (.goto (-43), 3) := by decide +kernel
theorem dX10_carryTo_110 : decode cX10_carryTo 110 = .ok (.iconst 0, 1) := by decide +kernel
theorem dX10_carryTo_111 : decode cX10_carryTo 111 = .ok (.istore_n 3, 1) := by decide +kernel
theorem dX10_carryTo_112 : decode cX10_carryTo 112 = .ok (.iload_n 3, 1) := by decide +kernel
theorem dX10_carryTo_113 : decode cX10_carryTo 113 = .ok (.bipush 36, 2) := by decide +kernel
theorem dX10_carryTo_115 : decode cX10_carryTo 115 = .ok (.if_icmp .ge 26, 3) := by decide +kernel
theorem dX10_carryTo_118 : decode cX10_carryTo 118 = .ok (.aload_n 0, 1) := by decide +kernel
theorem dX10_carryTo_119 : decode cX10_carryTo 119 = .ok (.getfield 13, 3) := by decide +kernel
theorem dX10_carryTo_122 : decode cX10_carryTo 122 = .ok (.iload_n 3, 1) := by decide +kernel
theorem dX10_carryTo_123 : decode cX10_carryTo 123 = .ok (.aload_n 0, 1) := by decide +kernel
theorem dX10_carryTo_124 : decode cX10_carryTo 124 = .ok (.aload_n 1, 1) := by decide +kernel
theorem dX10_carryTo_125 : decode cX10_carryTo 125 = .ok (.aload_n 0, 1) := by decide +kernel
theorem dX10_carryTo_126 : decode cX10_carryTo 126 = .ok (.getfield 13, 3) := by decide +kernel
theorem dX10_carryTo_129 : decode cX10_carryTo 129 = .ok (.iload_n 3, 1) := by decide +kernel
theorem dX10_carryTo_130 : decode cX10_carryTo 130 = .ok (.iaload, 1) := by decide +kernel
theorem dX10_carryTo_131 : decode cX10_carryTo 131 = .ok (.invokevirtual 318, 3) := by decide +kernel
theorem dX10_carryTo_134 : decode cX10_carryTo 134 = .ok (.iastore, 1) := by decide +kernel
theorem dX10_carryTo_135 : decode cX10_carryTo 135 = .ok (.iinc 3 1, 3) := by decide +kernel
theorem dX10_carryTo_138 : decode cX10_carryTo 138 = .ok (.goto (-26), 3) := by decide +kernel
theorem dX10_carryTo_141 : decode cX10_carryTo 141 = .ok (.iconst 0, 1) := by decide +kernel
theorem dX10_carryTo_142 : decode cX10_carryTo 142 = .ok (.istore_n 3, 1) := by decide +kernel
theorem dX10_carryTo_143 : decode cX10_carryTo 143 = .ok (.iload_n 3, 1) := by decide +kernel
theorem dX10_carryTo_144 : decode cX10_carryTo 144 = .ok (.iconst 3, 1) := by decide +kernel
theorem dX10_carryTo_145 : decode cX10_carryTo 145 = .ok (.if_icmp .ge 43, 3) := by decide +kernel
theorem dX10_carryTo_148 : decode cX10_carryTo 148 = .ok (.aload_n 0, 1) := by decide +kernel
theorem dX10_carryTo_149 : decode cX10_carryTo 149 = .ok (.getfield 16, 3) := by decide +kernel
theorem dX10_carryTo_152 : decode cX10_carryTo 152 = .ok (.iload_n 3, 1) := by decide +kernel
theorem dX10_carryTo_153 : decode cX10_carryTo 153 = .ok (.aload_n 0, 1) := by decide +kernel
theorem dX10_carryTo_154 : decode cX10_carryTo 154 = .ok (.aload_n 1, 1) := by decide +kernel
theorem dX10_carryTo_155 : decode cX10_carryTo 155 = .ok (.aload_n 0, 1) := by decide +kernel
theorem dX10_carryTo_156 : decode cX10_carryTo 156 = .ok (.getfield 16, 3) := by decide +kernel
theorem dX10_carryTo_159 : decode cX10_carryTo 159 = .ok (.iload_n 3, 1) := by decide +kernel
theorem dX10_carryTo_160 : decode cX10_carryTo 160 = .ok (.iaload, 1) := by decide +kernel
theorem dX10_carryTo_161 : decode cX10_carryTo 161 = .ok (.invokevirtual 318, 3) := by decide +kernel
theorem dX10_carryTo_164 : decode cX10_carryTo 164 = .ok (.iastore, 1) := by decide +kernel
theorem dX10_carryTo_165 : decode cX10_carryTo 165 = .ok (.aload_n 0, 1) := by decide +kernel
theorem dX10_carryTo_166 : decode cX10_carryTo 166 = .ok (.getfield 19, 3) := by decide +kernel
theorem dX10_carryTo_169 : decode cX10_carryTo 169 = .ok (.iload_n 3, 1) := by decide +kernel
theorem dX10_carryTo_170 : decode cX10_carryTo 170 = .ok (.aload_n 0, 1) := by decide +kernel
theorem dX10_carryTo_171 : decode cX10_carryTo 171 = .ok (.aload_n 1, 1) := by decide +kernel
theorem dX10_carryTo_172 : decode cX10_carryTo 172 = .ok (.aload_n 0, 1) := by decide +kernel
theorem dX10_carryTo_173 : decode cX10_carryTo 173 = .ok (.getfield 19, 3) := by decide +kernel
theorem dX10_carryTo_176 : decode cX10_carryTo 176 = .ok (.iload_n 3, 1) := by decide +kernel
theorem dX10_carryTo_177 : decode cX10_carryTo 177 = .ok (.iaload, 1) := by decide +kernel
theorem dX10_carryTo_178 : decode cX10_carryTo 178 = .ok (.invokevirtual 318, 3) := by decide +kernel
theorem dX10_carryTo_181 : decode cX10_carryTo 181 = .ok (.iastore, 1) := by decide +kernel
theorem dX10_carryTo_182 : decode cX10_carryTo 182 = .ok (.iinc 3 1, 3) := by decide +kernel
theorem dX10_carryTo_185 : decode cX10_carryTo 185 = .ok (.goto (-42), 3) := by decide +kernel
theorem dX10_carryTo_188 : decode cX10_carryTo 188 = .ok (.iconst 0, 1) := by decide +kernel
theorem dX10_carryTo_189 : decode cX10_carryTo 189 = .ok (.istore_n 3, 1) := by decide +kernel
theorem dX10_carryTo_190 : decode cX10_carryTo 190 = .ok (.iload_n 3, 1) := by decide +kernel
theorem dX10_carryTo_191 : decode cX10_carryTo 191 = .ok (.bipush 18, 2) := by decide +kernel
theorem dX10_carryTo_193 : decode cX10_carryTo 193 = .ok (.if_icmp .ge 26, 3) := by decide +kernel
theorem dX10_carryTo_196 : decode cX10_carryTo 196 = .ok (.aload_n 0, 1) := by decide +kernel
theorem dX10_carryTo_197 : decode cX10_carryTo 197 = .ok (.getfield 22, 3) := by decide +kernel
theorem dX10_carryTo_200 : decode cX10_carryTo 200 = .ok (.iload_n 3, 1) := by decide +kernel
theorem dX10_carryTo_201 : decode cX10_carryTo 201 = .ok (.aload_n 0, 1) := by decide +kernel
theorem dX10_carryTo_202 : decode cX10_carryTo 202 = .ok (.aload_n 1, 1) := by decide +kernel
theorem dX10_carryTo_203 : decode cX10_carryTo 203 = .ok (.aload_n 0, 1) := by decide +kernel
theorem dX10_carryTo_204 : decode cX10_carryTo 204 = .ok (.getfield 22, 3) := by decide +kernel
theorem dX10_carryTo_207 : decode cX10_carryTo 207 = .ok (.iload_n 3, 1) := by decide +kernel
theorem dX10_carryTo_208 : decode cX10_carryTo 208 = .ok (.iaload, 1) := by decide +kernel
theorem dX10_carryTo_209 : decode cX10_carryTo 209 = .ok (.invokevirtual 318, 3) := by decide +kernel
theorem dX10_carryTo_212 : decode cX10_carryTo 212 = .ok (.iastore, 1) := by decide +kernel
theorem dX10_carryTo_213 : decode cX10_carryTo 213 = .ok (.iinc 3 1, 3) := by decide +kernel
theorem dX10_carryTo_216 : decode cX10_carryTo 216 = .ok (.goto (-26), 3) := by decide +kernel
theorem dX10_carryTo_219 : decode cX10_carryTo 219 = .ok (.return_, 1) := by decide +kernel
theorem dX10_image_0 : decode cX10_image 0 = .ok (.aload_n 0, 1) := by decide +kernel
theorem dX10_image_1 : decode cX10_image 1 = .ok (.iconst 0, 1) := by decide +kernel
theorem dX10_image_2 : decode cX10_image 2 = .ok (.putfield 99, 3) := by decide +kernel
theorem dX10_image_5 : decode cX10_image 5 = .ok (.aload_n 0, 1) := by decide +kernel
theorem dX10_image_6 : decode cX10_image 6 = .ok (.iconst 1, 1) := by decide +kernel
theorem dX10_image_7 : decode cX10_image 7 = .ok (.putfield 322, 3) := by decide +kernel
theorem dX10_image_10 : decode cX10_image 10 = .ok (.aload_n 0, 1) := by decide +kernel
theorem dX10_image_11 : decode cX10_image 11 = .ok (.aload_n 0, 1) := by decide +kernel
theorem dX10_image_12 : decode cX10_image 12 = .ok (.getfield 71, 3) := by decide +kernel
theorem dX10_image_15 : decode cX10_image 15 = .ok (.iconst 1, 1) := by decide +kernel
theorem dX10_image_16 : decode cX10_image 16 = .ok (.invokevirtual 190, 3) := by decide +kernel
theorem dX10_image_19 : decode cX10_image 19 = .ok (.aload_n 0, 1) := by decide +kernel
theorem dX10_image_20 : decode cX10_image 20 = .ok (.getfield 103, 3) := by decide +kernel
theorem dX10_image_23 : decode cX10_image 23 = .ok (.ireturn, 1) := by decide +kernel
theorem dX10_restore_0 : decode cX10_restore 0 = .ok (.aload_n 0, 1) := by decide +kernel
theorem dX10_restore_1 : decode cX10_restore 1 = .ok (.iconst 0, 1) := by decide +kernel
theorem dX10_restore_2 : decode cX10_restore 2 = .ok (.putfield 99, 3) := by decide +kernel
theorem dX10_restore_5 : decode cX10_restore 5 = .ok (.aload_n 0, 1) := by decide +kernel
theorem dX10_restore_6 : decode cX10_restore 6 = .ok (.getfield 322, 3) := by decide +kernel
theorem dX10_restore_9 : decode cX10_restore 9 = .ok (.ifCond .ne 6, 3) := by decide +kernel
theorem dX10_restore_12 : decode cX10_restore 12 = .ok (.bipush (-3), 2) := by decide +kernel
theorem dX10_restore_14 : decode cX10_restore 14 = .ok (.ireturn, 1) := by decide +kernel
theorem dX10_restore_15 : decode cX10_restore 15 = .ok (.aload_n 0, 1) := by decide +kernel
theorem dX10_restore_16 : decode cX10_restore 16 = .ok (.aload_n 0, 1) := by decide +kernel
theorem dX10_restore_17 : decode cX10_restore 17 = .ok (.getfield 71, 3) := by decide +kernel
theorem dX10_restore_20 : decode cX10_restore 20 = .ok (.iconst 0, 1) := by decide +kernel
theorem dX10_restore_21 : decode cX10_restore 21 = .ok (.invokevirtual 190, 3) := by decide +kernel
theorem dX10_restore_24 : decode cX10_restore 24 = .ok (.aload_n 0, 1) := by decide +kernel
theorem dX10_restore_25 : decode cX10_restore 25 = .ok (.getfield 103, 3) := by decide +kernel
theorem dX10_restore_28 : decode cX10_restore 28 = .ok (.ireturn, 1) := by decide +kernel
theorem dX10_touches_0 : decode cX10_touches 0 = .ok (.iconst 0, 1) := by decide +kernel
theorem dX10_touches_1 : decode cX10_touches 1 = .ok (.istore_n 2, 1) := by decide +kernel
theorem dX10_touches_2 : decode cX10_touches 2 = .ok (.iconst 0, 1) := by decide +kernel
theorem dX10_touches_3 : decode cX10_touches 3 = .ok (.istore_n 3, 1) := by decide +kernel
theorem dX10_touches_4 : decode cX10_touches 4 = .ok (.iload_n 3, 1) := by decide +kernel
theorem dX10_touches_5 : decode cX10_touches 5 = .ok (.aload_n 0, 1) := by decide +kernel
theorem dX10_touches_6 : decode cX10_touches 6 = .ok (.getfield 103, 3) := by decide +kernel
theorem dX10_touches_9 : decode cX10_touches 9 = .ok (.if_icmp .ge 48, 3) := by decide +kernel
theorem dX10_touches_12 : decode cX10_touches 12 = .ok (.iconst 0, 1) := by decide +kernel
theorem dX10_touches_13 : decode cX10_touches 13 = .ok (.istore 4, 2) := by decide +kernel
theorem dX10_touches_15 : decode cX10_touches 15 = .ok (.iload 4, 2) := by decide +kernel
theorem dX10_touches_17 : decode cX10_touches 17 = .ok (.iload_n 3, 1) := by decide +kernel
theorem dX10_touches_18 : decode cX10_touches 18 = .ok (.if_icmp .ge 33, 3) := by decide +kernel
theorem dX10_touches_21 : decode cX10_touches 21 = .ok (.iload_n 2, 1) := by decide +kernel
theorem dX10_touches_22 : decode cX10_touches 22 = .ok (.aload_n 0, 1) := by decide +kernel
theorem dX10_touches_23 : decode cX10_touches 23 = .ok (.getfield 13, 3) := by decide +kernel
theorem dX10_touches_26 : decode cX10_touches 26 = .ok (.bipush 6, 2) := by decide +kernel
theorem dX10_touches_28 : decode cX10_touches 28 = .ok (.iload_n 3, 1) := by decide +kernel
theorem dX10_touches_29 : decode cX10_touches 29 = .ok (.imul, 1) := by decide +kernel
theorem dX10_touches_30 : decode cX10_touches 30 = .ok (.iload 4, 2) := by decide +kernel
theorem dX10_touches_32 : decode cX10_touches 32 = .ok (.iadd, 1) := by decide +kernel
theorem dX10_touches_33 : decode cX10_touches 33 = .ok (.iaload, 1) := by decide +kernel
theorem dX10_touches_34 : decode cX10_touches 34 = .ok (.iload_n 1, 1) := by decide +kernel
theorem dX10_touches_35 : decode cX10_touches 35 = .ok (.if_icmp .ne 7, 3) := by decide +kernel
theorem dX10_touches_38 : decode cX10_touches 38 = .ok (.iconst 1, 1) := by decide +kernel
theorem dX10_touches_39 : decode cX10_touches 39 = .ok (.goto 4, 3) := by decide +kernel
theorem dX10_touches_42 : decode cX10_touches 42 = .ok (.iconst 0, 1) := by decide +kernel
theorem dX10_touches_43 : decode cX10_touches 43 = .ok (.iadd, 1) := by decide +kernel
theorem dX10_touches_44 : decode cX10_touches 44 = .ok (.istore_n 2, 1) := by decide +kernel
theorem dX10_touches_45 : decode cX10_touches 45 = .ok (.iinc 4 1, 3) := by decide +kernel
theorem dX10_touches_48 : decode cX10_touches 48 = .ok (.goto (-33), 3) := by decide +kernel
theorem dX10_touches_51 : decode cX10_touches 51 = .ok (.iinc 3 1, 3) := by decide +kernel
theorem dX10_touches_54 : decode cX10_touches 54 = .ok (.goto (-50), 3) := by decide +kernel
theorem dX10_touches_57 : decode cX10_touches 57 = .ok (.iload_n 2, 1) := by decide +kernel
theorem dX10_touches_58 : decode cX10_touches 58 = .ok (.ireturn, 1) := by decide +kernel
theorem dX10_sumOf_0 : decode cX10_sumOf 0 = .ok (.iconst 0, 1) := by decide +kernel
theorem dX10_sumOf_1 : decode cX10_sumOf 1 = .ok (.istore_n 2, 1) := by decide +kernel
theorem dX10_sumOf_2 : decode cX10_sumOf 2 = .ok (.iconst 0, 1) := by decide +kernel
theorem dX10_sumOf_3 : decode cX10_sumOf 3 = .ok (.istore_n 3, 1) := by decide +kernel
theorem dX10_sumOf_4 : decode cX10_sumOf 4 = .ok (.iload_n 3, 1) := by decide +kernel
theorem dX10_sumOf_5 : decode cX10_sumOf 5 = .ok (.aload_n 0, 1) := by decide +kernel
theorem dX10_sumOf_6 : decode cX10_sumOf 6 = .ok (.getfield 103, 3) := by decide +kernel
theorem dX10_sumOf_9 : decode cX10_sumOf 9 = .ok (.if_icmp .ge 45, 3) := by decide +kernel
theorem dX10_sumOf_12 : decode cX10_sumOf 12 = .ok (.iload_n 2, 1) := by decide +kernel
theorem dX10_sumOf_13 : decode cX10_sumOf 13 = .ok (.iload_n 1, 1) := by decide +kernel
theorem dX10_sumOf_14 : decode cX10_sumOf 14 = .ok (.iconst 2, 1) := by decide +kernel
theorem dX10_sumOf_15 : decode cX10_sumOf 15 = .ok (.if_icmp .ne 12, 3) := by decide +kernel
theorem dX10_sumOf_18 : decode cX10_sumOf 18 = .ok (.aload_n 0, 1) := by decide +kernel
theorem dX10_sumOf_19 : decode cX10_sumOf 19 = .ok (.getfield 7, 3) := by decide +kernel
theorem dX10_sumOf_22 : decode cX10_sumOf 22 = .ok (.iload_n 3, 1) := by decide +kernel
theorem dX10_sumOf_23 : decode cX10_sumOf 23 = .ok (.iaload, 1) := by decide +kernel
theorem dX10_sumOf_24 : decode cX10_sumOf 24 = .ok (.goto 22, 3) := by decide +kernel
theorem dX10_sumOf_27 : decode cX10_sumOf 27 = .ok (.iload_n 1, 1) := by decide +kernel
theorem dX10_sumOf_28 : decode cX10_sumOf 28 = .ok (.iconst 3, 1) := by decide +kernel
theorem dX10_sumOf_29 : decode cX10_sumOf 29 = .ok (.if_icmp .ne 16, 3) := by decide +kernel
theorem dX10_sumOf_32 : decode cX10_sumOf 32 = .ok (.aload_n 0, 1) := by decide +kernel
theorem dX10_sumOf_33 : decode cX10_sumOf 33 = .ok (.getfield 25, 3) := by decide +kernel
theorem dX10_sumOf_36 : decode cX10_sumOf 36 = .ok (.iload_n 3, 1) := by decide +kernel
theorem dX10_sumOf_37 : decode cX10_sumOf 37 = .ok (.iaload, 1) := by decide +kernel
theorem dX10_sumOf_38 : decode cX10_sumOf 38 = .ok (.ifCond .le 7, 3) := by decide +kernel
theorem dX10_sumOf_41 : decode cX10_sumOf 41 = .ok (.iconst 1, 1) := by decide +kernel
theorem dX10_sumOf_42 : decode cX10_sumOf 42 = .ok (.goto 4, 3) := by decide +kernel
theorem dX10_sumOf_45 : decode cX10_sumOf 45 = .ok (.iconst 0, 1) := by decide +kernel
theorem dX10_sumOf_46 : decode cX10_sumOf 46 = .ok (.iadd, 1) := by decide +kernel
theorem dX10_sumOf_47 : decode cX10_sumOf 47 = .ok (.istore_n 2, 1) := by decide +kernel
theorem dX10_sumOf_48 : decode cX10_sumOf 48 = .ok (.iinc 3 1, 3) := by decide +kernel
theorem dX10_sumOf_51 : decode cX10_sumOf 51 = .ok (.goto (-47), 3) := by decide +kernel
theorem dX10_sumOf_54 : decode cX10_sumOf 54 = .ok (.iconst 0, 1) := by decide +kernel
theorem dX10_sumOf_55 : decode cX10_sumOf 55 = .ok (.istore_n 3, 1) := by decide +kernel
theorem dX10_sumOf_56 : decode cX10_sumOf 56 = .ok (.iload_n 3, 1) := by decide +kernel
theorem dX10_sumOf_57 : decode cX10_sumOf 57 = .ok (.aload_n 0, 1) := by decide +kernel
theorem dX10_sumOf_58 : decode cX10_sumOf 58 = .ok (.getfield 110, 3) := by decide +kernel
theorem dX10_sumOf_61 : decode cX10_sumOf 61 = .ok (.if_icmp .ge 28, 3) := by decide +kernel
theorem dX10_sumOf_64 : decode cX10_sumOf 64 = .ok (.iload_n 2, 1) := by decide +kernel
theorem dX10_sumOf_65 : decode cX10_sumOf 65 = .ok (.iload_n 1, 1) := by decide +kernel
theorem dX10_sumOf_66 : decode cX10_sumOf 66 = .ok (.bipush 7, 2) := by decide +kernel
theorem dX10_sumOf_68 : decode cX10_sumOf 68 = .ok (.if_icmp .ne 12, 3) := by decide +kernel
theorem dX10_sumOf_71 : decode cX10_sumOf 71 = .ok (.aload_n 0, 1) := by decide +kernel
theorem dX10_sumOf_72 : decode cX10_sumOf 72 = .ok (.getfield 16, 3) := by decide +kernel
theorem dX10_sumOf_75 : decode cX10_sumOf 75 = .ok (.iload_n 3, 1) := by decide +kernel
theorem dX10_sumOf_76 : decode cX10_sumOf 76 = .ok (.iaload, 1) := by decide +kernel
theorem dX10_sumOf_77 : decode cX10_sumOf 77 = .ok (.goto 4, 3) := by decide +kernel
theorem dX10_sumOf_80 : decode cX10_sumOf 80 = .ok (.iconst 0, 1) := by decide +kernel
theorem dX10_sumOf_81 : decode cX10_sumOf 81 = .ok (.iadd, 1) := by decide +kernel
theorem dX10_sumOf_82 : decode cX10_sumOf 82 = .ok (.istore_n 2, 1) := by decide +kernel
theorem dX10_sumOf_83 : decode cX10_sumOf 83 = .ok (.iinc 3 1, 3) := by decide +kernel
theorem dX10_sumOf_86 : decode cX10_sumOf 86 = .ok (.goto (-30), 3) := by decide +kernel
theorem dX10_sumOf_89 : decode cX10_sumOf 89 = .ok (.iload_n 2, 1) := by decide +kernel
theorem dX10_sumOf_90 : decode cX10_sumOf 90 = .ok (.ireturn, 1) := by decide +kernel
theorem dX10_count_0 : decode cX10_count 0 = .ok (.aload_n 0, 1) := by decide +kernel
theorem dX10_count_1 : decode cX10_count 1 = .ok (.iconst 0, 1) := by decide +kernel
theorem dX10_count_2 : decode cX10_count 2 = .ok (.putfield 99, 3) := by decide +kernel
theorem dX10_count_5 : decode cX10_count 5 = .ok (.iload_n 1, 1) := by decide +kernel
theorem dX10_count_6 : decode cX10_count 6 = .ok (.tableswitch 86 0 7 #[46, 51, 80, 80, 56, 68, 74, 80], 46) := by decide +kernel
theorem dX10_count_52 : decode cX10_count 52 = .ok (.aload_n 0, 1) := by decide +kernel
theorem dX10_count_53 : decode cX10_count 53 = .ok (.getfield 103, 3) := by decide +kernel
theorem dX10_count_56 : decode cX10_count 56 = .ok (.ireturn, 1) := by decide +kernel
theorem dX10_count_57 : decode cX10_count 57 = .ok (.aload_n 0, 1) := by decide +kernel
theorem dX10_count_58 : decode cX10_count 58 = .ok (.getfield 110, 3) := by decide +kernel
theorem dX10_count_61 : decode cX10_count 61 = .ok (.ireturn, 1) := by decide +kernel
theorem dX10_count_62 : decode cX10_count 62 = .ok (.aload_n 0, 1) := by decide +kernel
theorem dX10_count_63 : decode cX10_count 63 = .ok (.iconst 1, 1) := by decide +kernel
theorem dX10_count_64 : decode cX10_count 64 = .ok (.invokevirtual 325, 3) := by decide +kernel
theorem dX10_count_67 : decode cX10_count 67 = .ok (.aload_n 0, 1) := by decide +kernel
theorem dX10_count_68 : decode cX10_count 68 = .ok (.iconst 2, 1) := by decide +kernel
theorem dX10_count_69 : decode cX10_count 69 = .ok (.invokevirtual 325, 3) := by decide +kernel
theorem dX10_count_72 : decode cX10_count 72 = .ok (.iadd, 1) := by decide +kernel
theorem dX10_count_73 : decode cX10_count 73 = .ok (.ireturn, 1) := by decide +kernel
theorem dX10_count_74 : decode cX10_count 74 = .ok (.aload_n 0, 1) := by decide +kernel
theorem dX10_count_75 : decode cX10_count 75 = .ok (.iconst 2, 1) := by decide +kernel
theorem dX10_count_76 : decode cX10_count 76 = .ok (.invokevirtual 325, 3) := by decide +kernel
theorem dX10_count_79 : decode cX10_count 79 = .ok (.ireturn, 1) := by decide +kernel
theorem dX10_count_80 : decode cX10_count 80 = .ok (.aload_n 0, 1) := by decide +kernel
theorem dX10_count_81 : decode cX10_count 81 = .ok (.iconst 3, 1) := by decide +kernel
theorem dX10_count_82 : decode cX10_count 82 = .ok (.invokevirtual 325, 3) := by decide +kernel
theorem dX10_count_85 : decode cX10_count 85 = .ok (.ireturn, 1) := by decide +kernel
theorem dX10_count_86 : decode cX10_count 86 = .ok (.aload_n 0, 1) := by decide +kernel
theorem dX10_count_87 : decode cX10_count 87 = .ok (.iload_n 1, 1) := by decide +kernel
theorem dX10_count_88 : decode cX10_count 88 = .ok (.invokevirtual 328, 3) := by decide +kernel
theorem dX10_count_91 : decode cX10_count 91 = .ok (.ireturn, 1) := by decide +kernel
theorem dX10_count_92 : decode cX10_count 92 = .ok (.iconst (-1), 1) := by decide +kernel
theorem dX10_count_93 : decode cX10_count 93 = .ok (.ireturn, 1) := by decide +kernel
theorem dX10_wrongBytes_0 : decode cX10_wrongBytes 0 = .ok (.aload_n 0, 1) := by decide +kernel
theorem dX10_wrongBytes_1 : decode cX10_wrongBytes 1 = .ok (.iload_n 1, 1) := by decide +kernel
theorem dX10_wrongBytes_2 : decode cX10_wrongBytes 2 = .ok (.invokevirtual 331, 3) := by decide +kernel
theorem dX10_wrongBytes_5 : decode cX10_wrongBytes 5 = .ok (.ifCond .ge 11, 3) := by decide +kernel
theorem dX10_wrongBytes_8 : decode cX10_wrongBytes 8 = .ok (.aload_n 0, 1) := by decide +kernel
theorem dX10_wrongBytes_9 : decode cX10_wrongBytes 9 = .ok (.iload_n 1, 1) := by decide +kernel
theorem dX10_wrongBytes_10 : decode cX10_wrongBytes 10 = .ok (.invokevirtual 331, 3) := by decide +kernel
theorem dX10_wrongBytes_13 : decode cX10_wrongBytes 13 = .ok (.goto 18, 3) := by decide +kernel
theorem dX10_wrongBytes_16 : decode cX10_wrongBytes 16 = .ok (.aload_n 0, 1) := by decide +kernel
theorem dX10_wrongBytes_17 : decode cX10_wrongBytes 17 = .ok (.getfield 86, 3) := by decide +kernel
theorem dX10_wrongBytes_20 : decode cX10_wrongBytes 20 = .ok (.iload_n 1, 1) := by decide +kernel
theorem dX10_wrongBytes_21 : decode cX10_wrongBytes 21 = .ok (.iaload, 1) := by decide +kernel
theorem dX10_wrongBytes_22 : decode cX10_wrongBytes 22 = .ok (.ifCond .eq 8, 3) := by decide +kernel
theorem dX10_wrongBytes_25 : decode cX10_wrongBytes 25 = .ok (.bipush (-12), 2) := by decide +kernel
theorem dX10_wrongBytes_27 : decode cX10_wrongBytes 27 = .ok (.goto 4, 3) := by decide +kernel
theorem dX10_wrongBytes_30 : decode cX10_wrongBytes 30 = .ok (.iconst 0, 1) := by decide +kernel
theorem dX10_wrongBytes_31 : decode cX10_wrongBytes 31 = .ok (.ireturn, 1) := by decide +kernel
theorem dX10_keep_0 : decode cX10_keep 0 = .ok (.aload_n 0, 1) := by decide +kernel
theorem dX10_keep_1 : decode cX10_keep 1 = .ok (.iconst 0, 1) := by decide +kernel
theorem dX10_keep_2 : decode cX10_keep 2 = .ok (.putfield 99, 3) := by decide +kernel
theorem dX10_keep_5 : decode cX10_keep 5 = .ok (.iload_n 1, 1) := by decide +kernel
theorem dX10_keep_6 : decode cX10_keep 6 = .ok (.i2l, 1) := by decide +kernel
theorem dX10_keep_7 : decode cX10_keep 7 = .ok (.lconst 0, 1) := by decide +kernel
theorem dX10_keep_8 : decode cX10_keep 8 = .ok (.ldc2_w 214, 3) := by decide +kernel
theorem dX10_keep_11 : decode cX10_keep 11 = .ok (.invokestatic 106, 3) := by decide +kernel
theorem dX10_keep_14 : decode cX10_keep 14 = .ok (.ifCond .eq 43, 3) := by decide +kernel
theorem dX10_keep_17 : decode cX10_keep 17 = .ok (.iload_n 2, 1) := by decide +kernel
theorem dX10_keep_18 : decode cX10_keep 18 = .ok (.i2l, 1) := by decide +kernel
theorem dX10_keep_19 : decode cX10_keep 19 = .ok (.lconst 0, 1) := by decide +kernel
theorem dX10_keep_20 : decode cX10_keep 20 = .ok (.lconst 1, 1) := by decide +kernel
theorem dX10_keep_21 : decode cX10_keep 21 = .ok (.invokestatic 106, 3) := by decide +kernel
theorem dX10_keep_24 : decode cX10_keep 24 = .ok (.ifCond .eq 33, 3) := by decide +kernel
theorem dX10_keep_27 : decode cX10_keep 27 = .ok (.iload_n 2, 1) := by decide +kernel
theorem dX10_keep_28 : decode cX10_keep 28 = .ok (.iconst 1, 1) := by decide +kernel
theorem dX10_keep_29 : decode cX10_keep 29 = .ok (.if_icmp .ne 30, 3) := by decide +kernel
theorem dX10_keep_32 : decode cX10_keep 32 = .ok (.iload_n 3, 1) := by decide +kernel
theorem dX10_keep_33 : decode cX10_keep 33 = .ok (.i2l, 1) := by decide +kernel
theorem dX10_keep_34 : decode cX10_keep 34 = .ok (.lconst 0, 1) := by decide +kernel
theorem dX10_keep_35 : decode cX10_keep 35 = .ok (.ldc2_w 214, 3) := by decide +kernel
theorem dX10_keep_38 : decode cX10_keep 38 = .ok (.invokestatic 106, 3) := by decide +kernel
theorem dX10_keep_41 : decode cX10_keep 41 = .ok (.ifCond .eq 16, 3) := by decide +kernel
theorem dX10_keep_44 : decode cX10_keep 44 = .ok (.iload 4, 2) := by decide +kernel
theorem dX10_keep_46 : decode cX10_keep 46 = .ok (.i2l, 1) := by decide +kernel
theorem dX10_keep_47 : decode cX10_keep 47 = .ok (.lconst 0, 1) := by decide +kernel
theorem dX10_keep_48 : decode cX10_keep 48 = .ok (.ldc2_w 334, 3) := by decide +kernel
theorem dX10_keep_51 : decode cX10_keep 51 = .ok (.invokestatic 106, 3) := by decide +kernel
theorem dX10_keep_54 : decode cX10_keep 54 = .ok (.ifCond .ne 5, 3) := by decide +kernel
theorem dX10_keep_57 : decode cX10_keep 57 = .ok (.iconst (-1), 1) := by decide +kernel
theorem dX10_keep_58 : decode cX10_keep 58 = .ok (.ireturn, 1) := by decide +kernel
theorem dX10_keep_59 : decode cX10_keep 59 = .ok (.aload_n 0, 1) := by decide +kernel
theorem dX10_keep_60 : decode cX10_keep 60 = .ok (.getfield 77, 3) := by decide +kernel
theorem dX10_keep_63 : decode cX10_keep 63 = .ok (.iload_n 1, 1) := by decide +kernel
theorem dX10_keep_64 : decode cX10_keep 64 = .ok (.iload_n 2, 1) := by decide +kernel
theorem dX10_keep_65 : decode cX10_keep 65 = .ok (.iastore, 1) := by decide +kernel
theorem dX10_keep_66 : decode cX10_keep 66 = .ok (.aload_n 0, 1) := by decide +kernel
theorem dX10_keep_67 : decode cX10_keep 67 = .ok (.getfield 80, 3) := by decide +kernel
theorem dX10_keep_70 : decode cX10_keep 70 = .ok (.iload_n 1, 1) := by decide +kernel
theorem dX10_keep_71 : decode cX10_keep 71 = .ok (.iload_n 3, 1) := by decide +kernel
theorem dX10_keep_72 : decode cX10_keep 72 = .ok (.iastore, 1) := by decide +kernel
theorem dX10_keep_73 : decode cX10_keep 73 = .ok (.aload_n 0, 1) := by decide +kernel
theorem dX10_keep_74 : decode cX10_keep 74 = .ok (.getfield 83, 3) := by decide +kernel
theorem dX10_keep_77 : decode cX10_keep 77 = .ok (.iload_n 1, 1) := by decide +kernel
theorem dX10_keep_78 : decode cX10_keep 78 = .ok (.iload 4, 2) := by decide +kernel
theorem dX10_keep_80 : decode cX10_keep 80 = .ok (.iastore, 1) := by decide +kernel
theorem dX10_keep_81 : decode cX10_keep 81 = .ok (.iconst 0, 1) := by decide +kernel
theorem dX10_keep_82 : decode cX10_keep 82 = .ok (.ireturn, 1) := by decide +kernel
theorem dX10_wrongRow_0 : decode cX10_wrongRow 0 = .ok (.iload_n 1, 1) := by decide +kernel
theorem dX10_wrongRow_1 : decode cX10_wrongRow 1 = .ok (.i2l, 1) := by decide +kernel
theorem dX10_wrongRow_2 : decode cX10_wrongRow 2 = .ok (.lconst 0, 1) := by decide +kernel
theorem dX10_wrongRow_3 : decode cX10_wrongRow 3 = .ok (.ldc2_w 214, 3) := by decide +kernel
theorem dX10_wrongRow_6 : decode cX10_wrongRow 6 = .ok (.invokestatic 106, 3) := by decide +kernel
theorem dX10_wrongRow_9 : decode cX10_wrongRow 9 = .ok (.ifCond .ne 7, 3) := by decide +kernel
theorem dX10_wrongRow_12 : decode cX10_wrongRow 12 = .ok (.iconst (-1), 1) := by decide +kernel
theorem dX10_wrongRow_13 : decode cX10_wrongRow 13 = .ok (.goto 33, 3) := by decide +kernel
theorem dX10_wrongRow_16 : decode cX10_wrongRow 16 = .ok (.aload_n 0, 1) := by decide +kernel
theorem dX10_wrongRow_17 : decode cX10_wrongRow 17 = .ok (.getfield 77, 3) := by decide +kernel
theorem dX10_wrongRow_20 : decode cX10_wrongRow 20 = .ok (.iload_n 1, 1) := by decide +kernel
theorem dX10_wrongRow_21 : decode cX10_wrongRow 21 = .ok (.iaload, 1) := by decide +kernel
theorem dX10_wrongRow_22 : decode cX10_wrongRow 22 = .ok (.ifCond .ne 8, 3) := by decide +kernel
theorem dX10_wrongRow_25 : decode cX10_wrongRow 25 = .ok (.bipush (-11), 2) := by decide +kernel
theorem dX10_wrongRow_27 : decode cX10_wrongRow 27 = .ok (.goto 19, 3) := by decide +kernel
theorem dX10_wrongRow_30 : decode cX10_wrongRow 30 = .ok (.aload_n 0, 1) := by decide +kernel
theorem dX10_wrongRow_31 : decode cX10_wrongRow 31 = .ok (.getfield 77, 3) := by decide +kernel
theorem dX10_wrongRow_34 : decode cX10_wrongRow 34 = .ok (.iload_n 1, 1) := by decide +kernel
theorem dX10_wrongRow_35 : decode cX10_wrongRow 35 = .ok (.iaload, 1) := by decide +kernel
theorem dX10_wrongRow_36 : decode cX10_wrongRow 36 = .ok (.iconst 2, 1) := by decide +kernel
theorem dX10_wrongRow_37 : decode cX10_wrongRow 37 = .ok (.if_icmp .eq 8, 3) := by decide +kernel
theorem dX10_wrongRow_40 : decode cX10_wrongRow 40 = .ok (.bipush (-12), 2) := by decide +kernel
theorem dX10_wrongRow_42 : decode cX10_wrongRow 42 = .ok (.goto 4, 3) := by decide +kernel
theorem dX10_wrongRow_45 : decode cX10_wrongRow 45 = .ok (.iconst 0, 1) := by decide +kernel
theorem dX10_wrongRow_46 : decode cX10_wrongRow 46 = .ok (.ireturn, 1) := by decide +kernel
theorem dX10_narrowed_0 : decode cX10_narrowed 0 = .ok (.iload_n 1, 1) := by decide +kernel
theorem dX10_narrowed_1 : decode cX10_narrowed 1 = .ok (.ifCond .ne 9, 3) := by decide +kernel
theorem dX10_narrowed_4 : decode cX10_narrowed 4 = .ok (.iload_n 0, 1) := by decide +kernel
theorem dX10_narrowed_5 : decode cX10_narrowed 5 = .ok (.i2b, 1) := by decide +kernel
theorem dX10_narrowed_6 : decode cX10_narrowed 6 = .ok (.i2l, 1) := by decide +kernel
theorem dX10_narrowed_7 : decode cX10_narrowed 7 = .ok (.goto 16, 3) := by decide +kernel
theorem dX10_narrowed_10 : decode cX10_narrowed 10 = .ok (.iload_n 1, 1) := by decide +kernel
theorem dX10_narrowed_11 : decode cX10_narrowed 11 = .ok (.iconst 1, 1) := by decide +kernel
theorem dX10_narrowed_12 : decode cX10_narrowed 12 = .ok (.if_icmp .ne 9, 3) := by decide +kernel
theorem dX10_narrowed_15 : decode cX10_narrowed 15 = .ok (.iload_n 0, 1) := by decide +kernel
theorem dX10_narrowed_16 : decode cX10_narrowed 16 = .ok (.i2s, 1) := by decide +kernel
theorem dX10_narrowed_17 : decode cX10_narrowed 17 = .ok (.i2l, 1) := by decide +kernel
theorem dX10_narrowed_18 : decode cX10_narrowed 18 = .ok (.goto 5, 3) := by decide +kernel
theorem dX10_narrowed_21 : decode cX10_narrowed 21 = .ok (.iload_n 0, 1) := by decide +kernel
theorem dX10_narrowed_22 : decode cX10_narrowed 22 = .ok (.i2l, 1) := by decide +kernel
theorem dX10_narrowed_23 : decode cX10_narrowed 23 = .ok (.lreturn, 1) := by decide +kernel
theorem dX10_row_0 : decode cX10_row 0 = .ok (.aload_n 0, 1) := by decide +kernel
theorem dX10_row_1 : decode cX10_row 1 = .ok (.iconst 0, 1) := by decide +kernel
theorem dX10_row_2 : decode cX10_row 2 = .ok (.putfield 99, 3) := by decide +kernel
theorem dX10_row_5 : decode cX10_row 5 = .ok (.iload_n 1, 1) := by decide +kernel
theorem dX10_row_6 : decode cX10_row 6 = .ok (.i2l, 1) := by decide +kernel
theorem dX10_row_7 : decode cX10_row 7 = .ok (.lconst 0, 1) := by decide +kernel
theorem dX10_row_8 : decode cX10_row 8 = .ok (.ldc2_w 214, 3) := by decide +kernel
theorem dX10_row_11 : decode cX10_row 11 = .ok (.invokestatic 106, 3) := by decide +kernel
theorem dX10_row_14 : decode cX10_row 14 = .ok (.ifCond .eq 21, 3) := by decide +kernel
theorem dX10_row_17 : decode cX10_row 17 = .ok (.iload_n 2, 1) := by decide +kernel
theorem dX10_row_18 : decode cX10_row 18 = .ok (.i2l, 1) := by decide +kernel
theorem dX10_row_19 : decode cX10_row 19 = .ok (.lconst 0, 1) := by decide +kernel
theorem dX10_row_20 : decode cX10_row 20 = .ok (.ldc2_w 197, 3) := by decide +kernel
theorem dX10_row_23 : decode cX10_row 23 = .ok (.invokestatic 106, 3) := by decide +kernel
theorem dX10_row_26 : decode cX10_row 26 = .ok (.ifCond .eq 9, 3) := by decide +kernel
theorem dX10_row_29 : decode cX10_row 29 = .ok (.iload_n 3, 1) := by decide +kernel
theorem dX10_row_30 : decode cX10_row 30 = .ok (.bipush 100, 2) := by decide +kernel
theorem dX10_row_32 : decode cX10_row 32 = .ok (.if_icmp .le 5, 3) := by decide +kernel
theorem dX10_row_35 : decode cX10_row 35 = .ok (.iconst (-1), 1) := by decide +kernel
theorem dX10_row_36 : decode cX10_row 36 = .ok (.ireturn, 1) := by decide +kernel
theorem dX10_row_37 : decode cX10_row 37 = .ok (.iload_n 3, 1) := by decide +kernel
theorem dX10_row_38 : decode cX10_row 38 = .ok (.ifCond .ge 6, 3) := by decide +kernel
theorem dX10_row_41 : decode cX10_row 41 = .ok (.bipush (-14), 2) := by decide +kernel
theorem dX10_row_43 : decode cX10_row 43 = .ok (.ireturn, 1) := by decide +kernel
theorem dX10_row_44 : decode cX10_row 44 = .ok (.aload_n 0, 1) := by decide +kernel
theorem dX10_row_45 : decode cX10_row 45 = .ok (.getfield 77, 3) := by decide +kernel
theorem dX10_row_48 : decode cX10_row 48 = .ok (.iload_n 1, 1) := by decide +kernel
theorem dX10_row_49 : decode cX10_row 49 = .ok (.iconst 2, 1) := by decide +kernel
theorem dX10_row_50 : decode cX10_row 50 = .ok (.iastore, 1) := by decide +kernel
theorem dX10_row_51 : decode cX10_row 51 = .ok (.aload_n 0, 1) := by decide +kernel
theorem dX10_row_52 : decode cX10_row 52 = .ok (.getfield 86, 3) := by decide +kernel
theorem dX10_row_55 : decode cX10_row 55 = .ok (.iload_n 1, 1) := by decide +kernel
theorem dX10_row_56 : decode cX10_row 56 = .ok (.iload_n 2, 1) := by decide +kernel
theorem dX10_row_57 : decode cX10_row 57 = .ok (.iastore, 1) := by decide +kernel
theorem dX10_row_58 : decode cX10_row 58 = .ok (.aload_n 0, 1) := by decide +kernel
theorem dX10_row_59 : decode cX10_row 59 = .ok (.getfield 89, 3) := by decide +kernel
theorem dX10_row_62 : decode cX10_row 62 = .ok (.iload_n 1, 1) := by decide +kernel
theorem dX10_row_63 : decode cX10_row 63 = .ok (.iload_n 3, 1) := by decide +kernel
theorem dX10_row_64 : decode cX10_row 64 = .ok (.iastore, 1) := by decide +kernel
theorem dX10_row_65 : decode cX10_row 65 = .ok (.iconst 0, 1) := by decide +kernel
theorem dX10_row_66 : decode cX10_row 66 = .ok (.istore 4, 2) := by decide +kernel
theorem dX10_row_68 : decode cX10_row 68 = .ok (.iload 4, 2) := by decide +kernel
theorem dX10_row_70 : decode cX10_row 70 = .ok (.bipush 100, 2) := by decide +kernel
theorem dX10_row_72 : decode cX10_row 72 = .ok (.if_icmp .ge 22, 3) := by decide +kernel
theorem dX10_row_75 : decode cX10_row 75 = .ok (.aload_n 0, 1) := by decide +kernel
theorem dX10_row_76 : decode cX10_row 76 = .ok (.getfield 92, 3) := by decide +kernel
theorem dX10_row_79 : decode cX10_row 79 = .ok (.bipush 100, 2) := by decide +kernel
theorem dX10_row_81 : decode cX10_row 81 = .ok (.iload_n 1, 1) := by decide +kernel
theorem dX10_row_82 : decode cX10_row 82 = .ok (.imul, 1) := by decide +kernel
theorem dX10_row_83 : decode cX10_row 83 = .ok (.iload 4, 2) := by decide +kernel
theorem dX10_row_85 : decode cX10_row 85 = .ok (.iadd, 1) := by decide +kernel
theorem dX10_row_86 : decode cX10_row 86 = .ok (.lconst 0, 1) := by decide +kernel
theorem dX10_row_87 : decode cX10_row 87 = .ok (.lastore, 1) := by decide +kernel
theorem dX10_row_88 : decode cX10_row 88 = .ok (.iinc 4 1, 3) := by decide +kernel
theorem dX10_row_91 : decode cX10_row 91 = .ok (.goto (-23), 3) := by decide +kernel
theorem dX10_row_94 : decode cX10_row 94 = .ok (.iconst 0, 1) := by decide +kernel
theorem dX10_row_95 : decode cX10_row 95 = .ok (.ireturn, 1) := by decide +kernel
theorem dX10_put_0 : decode cX10_put 0 = .ok (.aload_n 0, 1) := by decide +kernel
theorem dX10_put_1 : decode cX10_put 1 = .ok (.iconst 0, 1) := by decide +kernel
theorem dX10_put_2 : decode cX10_put 2 = .ok (.putfield 99, 3) := by decide +kernel
theorem dX10_put_5 : decode cX10_put 5 = .ok (.aload_n 0, 1) := by decide +kernel
theorem dX10_put_6 : decode cX10_put 6 = .ok (.iload_n 1, 1) := by decide +kernel
theorem dX10_put_7 : decode cX10_put 7 = .ok (.invokevirtual 331, 3) := by decide +kernel
theorem dX10_put_10 : decode cX10_put 10 = .ok (.istore 4, 2) := by decide +kernel
theorem dX10_put_12 : decode cX10_put 12 = .ok (.iload 4, 2) := by decide +kernel
theorem dX10_put_14 : decode cX10_put 14 = .ok (.ifCond .ge 6, 3) := by decide +kernel
theorem dX10_put_17 : decode cX10_put 17 = .ok (.iload 4, 2) := by decide +kernel
theorem dX10_put_19 : decode cX10_put 19 = .ok (.ireturn, 1) := by decide +kernel
theorem dX10_put_20 : decode cX10_put 20 = .ok (.iload_n 2, 1) := by decide +kernel
theorem dX10_put_21 : decode cX10_put 21 = .ok (.i2l, 1) := by decide +kernel
theorem dX10_put_22 : decode cX10_put 22 = .ok (.lconst 0, 1) := by decide +kernel
theorem dX10_put_23 : decode cX10_put 23 = .ok (.aload_n 0, 1) := by decide +kernel
theorem dX10_put_24 : decode cX10_put 24 = .ok (.getfield 89, 3) := by decide +kernel
theorem dX10_put_27 : decode cX10_put 27 = .ok (.iload_n 1, 1) := by decide +kernel
theorem dX10_put_28 : decode cX10_put 28 = .ok (.iaload, 1) := by decide +kernel
theorem dX10_put_29 : decode cX10_put 29 = .ok (.iconst 1, 1) := by decide +kernel
theorem dX10_put_30 : decode cX10_put 30 = .ok (.isub, 1) := by decide +kernel
theorem dX10_put_31 : decode cX10_put 31 = .ok (.i2l, 1) := by decide +kernel
theorem dX10_put_32 : decode cX10_put 32 = .ok (.invokestatic 106, 3) := by decide +kernel
theorem dX10_put_35 : decode cX10_put 35 = .ok (.ifCond .ne 6, 3) := by decide +kernel
theorem dX10_put_38 : decode cX10_put 38 = .ok (.bipush (-13), 2) := by decide +kernel
theorem dX10_put_40 : decode cX10_put 40 = .ok (.ireturn, 1) := by decide +kernel
theorem dX10_put_41 : decode cX10_put 41 = .ok (.aload_n 0, 1) := by decide +kernel
theorem dX10_put_42 : decode cX10_put 42 = .ok (.getfield 92, 3) := by decide +kernel
theorem dX10_put_45 : decode cX10_put 45 = .ok (.bipush 100, 2) := by decide +kernel
theorem dX10_put_47 : decode cX10_put 47 = .ok (.iload_n 1, 1) := by decide +kernel
theorem dX10_put_48 : decode cX10_put 48 = .ok (.imul, 1) := by decide +kernel
theorem dX10_put_49 : decode cX10_put 49 = .ok (.iload_n 2, 1) := by decide +kernel
theorem dX10_put_50 : decode cX10_put 50 = .ok (.iadd, 1) := by decide +kernel
theorem dX10_put_51 : decode cX10_put 51 = .ok (.iload_n 3, 1) := by decide +kernel
theorem dX10_put_52 : decode cX10_put 52 = .ok (.aload_n 0, 1) := by decide +kernel
theorem dX10_put_53 : decode cX10_put 53 = .ok (.getfield 86, 3) := by decide +kernel
theorem dX10_put_56 : decode cX10_put 56 = .ok (.iload_n 1, 1) := by decide +kernel
theorem dX10_put_57 : decode cX10_put 57 = .ok (.iaload, 1) := by decide +kernel
theorem dX10_put_58 : decode cX10_put 58 = .ok (.invokestatic 336, 3) := by decide +kernel
theorem dX10_put_61 : decode cX10_put 61 = .ok (.lastore, 1) := by decide +kernel
theorem dX10_put_62 : decode cX10_put 62 = .ok (.iconst 0, 1) := by decide +kernel
theorem dX10_put_63 : decode cX10_put 63 = .ok (.ireturn, 1) := by decide +kernel
theorem dX10_element_0 : decode cX10_element 0 = .ok (.aload_n 0, 1) := by decide +kernel
theorem dX10_element_1 : decode cX10_element 1 = .ok (.iload_n 1, 1) := by decide +kernel
theorem dX10_element_2 : decode cX10_element 2 = .ok (.invokevirtual 331, 3) := by decide +kernel
theorem dX10_element_5 : decode cX10_element 5 = .ok (.istore_n 3, 1) := by decide +kernel
theorem dX10_element_6 : decode cX10_element 6 = .ok (.aload_n 0, 1) := by decide +kernel
theorem dX10_element_7 : decode cX10_element 7 = .ok (.iload_n 3, 1) := by decide +kernel
theorem dX10_element_8 : decode cX10_element 8 = .ok (.iconst (-1), 1) := by decide +kernel
theorem dX10_element_9 : decode cX10_element 9 = .ok (.if_icmp .ne 7, 3) := by decide +kernel
theorem dX10_element_12 : decode cX10_element 12 = .ok (.iconst 1, 1) := by decide +kernel
theorem dX10_element_13 : decode cX10_element 13 = .ok (.goto 30, 3) := by decide +kernel
theorem dX10_element_16 : decode cX10_element 16 = .ok (.iload_n 3, 1) := by decide +kernel
theorem dX10_element_17 : decode cX10_element 17 = .ok (.ifCond .lt 21, 3) := by decide +kernel
theorem dX10_element_20 : decode cX10_element 20 = .ok (.iload_n 2, 1) := by decide +kernel
theorem dX10_element_21 : decode cX10_element 21 = .ok (.i2l, 1) := by decide +kernel
theorem dX10_element_22 : decode cX10_element 22 = .ok (.lconst 0, 1) := by decide +kernel
theorem dX10_element_23 : decode cX10_element 23 = .ok (.aload_n 0, 1) := by decide +kernel
theorem dX10_element_24 : decode cX10_element 24 = .ok (.getfield 89, 3) := by decide +kernel
theorem dX10_element_27 : decode cX10_element 27 = .ok (.iload_n 1, 1) := by decide +kernel
theorem dX10_element_28 : decode cX10_element 28 = .ok (.iaload, 1) := by decide +kernel
theorem dX10_element_29 : decode cX10_element 29 = .ok (.iconst 1, 1) := by decide +kernel
theorem dX10_element_30 : decode cX10_element 30 = .ok (.isub, 1) := by decide +kernel
theorem dX10_element_31 : decode cX10_element 31 = .ok (.i2l, 1) := by decide +kernel
theorem dX10_element_32 : decode cX10_element 32 = .ok (.invokestatic 106, 3) := by decide +kernel
theorem dX10_element_35 : decode cX10_element 35 = .ok (.ifCond .ne 7, 3) := by decide +kernel
theorem dX10_element_38 : decode cX10_element 38 = .ok (.iconst 2, 1) := by decide +kernel
theorem dX10_element_39 : decode cX10_element 39 = .ok (.goto 4, 3) := by decide +kernel
theorem dX10_element_42 : decode cX10_element 42 = .ok (.iconst 0, 1) := by decide +kernel
theorem dX10_element_43 : decode cX10_element 43 = .ok (.putfield 99, 3) := by decide +kernel
theorem dX10_element_46 : decode cX10_element 46 = .ok (.aload_n 0, 1) := by decide +kernel
theorem dX10_element_47 : decode cX10_element 47 = .ok (.getfield 99, 3) := by decide +kernel
theorem dX10_element_50 : decode cX10_element 50 = .ok (.ifCond .le 7, 3) := by decide +kernel
theorem dX10_element_53 : decode cX10_element 53 = .ok (.lconst 0, 1) := by decide +kernel
theorem dX10_element_54 : decode cX10_element 54 = .ok (.goto 14, 3) := by decide +kernel
theorem dX10_element_57 : decode cX10_element 57 = .ok (.aload_n 0, 1) := by decide +kernel
theorem dX10_element_58 : decode cX10_element 58 = .ok (.getfield 92, 3) := by decide +kernel
theorem dX10_element_61 : decode cX10_element 61 = .ok (.bipush 100, 2) := by decide +kernel
theorem dX10_element_63 : decode cX10_element 63 = .ok (.iload_n 1, 1) := by decide +kernel
theorem dX10_element_64 : decode cX10_element 64 = .ok (.imul, 1) := by decide +kernel
theorem dX10_element_65 : decode cX10_element 65 = .ok (.iload_n 2, 1) := by decide +kernel
theorem dX10_element_66 : decode cX10_element 66 = .ok (.iadd, 1) := by decide +kernel
theorem dX10_element_67 : decode cX10_element 67 = .ok (.laload, 1) := by decide +kernel
theorem dX10_element_68 : decode cX10_element 68 = .ok (.lreturn, 1) := by decide +kernel
theorem dX10_copy_0 : decode cX10_copy 0 = .ok (.aload_n 0, 1) := by decide +kernel
theorem dX10_copy_1 : decode cX10_copy 1 = .ok (.iconst 0, 1) := by decide +kernel
theorem dX10_copy_2 : decode cX10_copy 2 = .ok (.putfield 99, 3) := by decide +kernel
theorem dX10_copy_5 : decode cX10_copy 5 = .ok (.iload_n 1, 1) := by decide +kernel
theorem dX10_copy_6 : decode cX10_copy 6 = .ok (.i2l, 1) := by decide +kernel
theorem dX10_copy_7 : decode cX10_copy 7 = .ok (.lconst 0, 1) := by decide +kernel
theorem dX10_copy_8 : decode cX10_copy 8 = .ok (.ldc2_w 214, 3) := by decide +kernel
theorem dX10_copy_11 : decode cX10_copy 11 = .ok (.invokestatic 106, 3) := by decide +kernel
theorem dX10_copy_14 : decode cX10_copy 14 = .ok (.ifCond .eq 15, 3) := by decide +kernel
theorem dX10_copy_17 : decode cX10_copy 17 = .ok (.iload_n 3, 1) := by decide +kernel
theorem dX10_copy_18 : decode cX10_copy 18 = .ok (.i2l, 1) := by decide +kernel
theorem dX10_copy_19 : decode cX10_copy 19 = .ok (.lconst 0, 1) := by decide +kernel
theorem dX10_copy_20 : decode cX10_copy 20 = .ok (.ldc2_w 214, 3) := by decide +kernel
theorem dX10_copy_23 : decode cX10_copy 23 = .ok (.invokestatic 106, 3) := by decide +kernel
theorem dX10_copy_26 : decode cX10_copy 26 = .ok (.ifCond .ne 5, 3) := by decide +kernel
theorem dX10_copy_29 : decode cX10_copy 29 = .ok (.iconst (-1), 1) := by decide +kernel
theorem dX10_copy_30 : decode cX10_copy 30 = .ok (.ireturn, 1) := by decide +kernel
theorem dX10_copy_31 : decode cX10_copy 31 = .ok (.aload_n 0, 1) := by decide +kernel
theorem dX10_copy_32 : decode cX10_copy 32 = .ok (.getfield 77, 3) := by decide +kernel
theorem dX10_copy_35 : decode cX10_copy 35 = .ok (.iload_n 1, 1) := by decide +kernel
theorem dX10_copy_36 : decode cX10_copy 36 = .ok (.iaload, 1) := by decide +kernel
theorem dX10_copy_37 : decode cX10_copy 37 = .ok (.ifCond .eq 12, 3) := by decide +kernel
theorem dX10_copy_40 : decode cX10_copy 40 = .ok (.aload_n 0, 1) := by decide +kernel
theorem dX10_copy_41 : decode cX10_copy 41 = .ok (.getfield 77, 3) := by decide +kernel
theorem dX10_copy_44 : decode cX10_copy 44 = .ok (.iload_n 3, 1) := by decide +kernel
theorem dX10_copy_45 : decode cX10_copy 45 = .ok (.iaload, 1) := by decide +kernel
theorem dX10_copy_46 : decode cX10_copy 46 = .ok (.ifCond .ne 6, 3) := by decide +kernel
theorem dX10_copy_49 : decode cX10_copy 49 = .ok (.bipush (-11), 2) := by decide +kernel
theorem dX10_copy_51 : decode cX10_copy 51 = .ok (.ireturn, 1) := by decide +kernel
theorem dX10_copy_52 : decode cX10_copy 52 = .ok (.aload_n 0, 1) := by decide +kernel
theorem dX10_copy_53 : decode cX10_copy 53 = .ok (.getfield 77, 3) := by decide +kernel
theorem dX10_copy_56 : decode cX10_copy 56 = .ok (.iload_n 1, 1) := by decide +kernel
theorem dX10_copy_57 : decode cX10_copy 57 = .ok (.iaload, 1) := by decide +kernel
theorem dX10_copy_58 : decode cX10_copy 58 = .ok (.iconst 2, 1) := by decide +kernel
theorem dX10_copy_59 : decode cX10_copy 59 = .ok (.if_icmp .ne 28, 3) := by decide +kernel
theorem dX10_copy_62 : decode cX10_copy 62 = .ok (.aload_n 0, 1) := by decide +kernel
theorem dX10_copy_63 : decode cX10_copy 63 = .ok (.getfield 77, 3) := by decide +kernel
theorem dX10_copy_66 : decode cX10_copy 66 = .ok (.iload_n 3, 1) := by decide +kernel
theorem dX10_copy_67 : decode cX10_copy 67 = .ok (.iaload, 1) := by decide +kernel
theorem dX10_copy_68 : decode cX10_copy 68 = .ok (.iconst 2, 1) := by decide +kernel
theorem dX10_copy_69 : decode cX10_copy 69 = .ok (.if_icmp .ne 18, 3) := by decide +kernel
theorem dX10_copy_72 : decode cX10_copy 72 = .ok (.aload_n 0, 1) := by decide +kernel
theorem dX10_copy_73 : decode cX10_copy 73 = .ok (.getfield 86, 3) := by decide +kernel
theorem dX10_copy_76 : decode cX10_copy 76 = .ok (.iload_n 1, 1) := by decide +kernel
theorem dX10_copy_77 : decode cX10_copy 77 = .ok (.iaload, 1) := by decide +kernel
theorem dX10_copy_78 : decode cX10_copy 78 = .ok (.aload_n 0, 1) := by decide +kernel
theorem dX10_copy_79 : decode cX10_copy 79 = .ok (.getfield 86, 3) := by decide +kernel
theorem dX10_copy_82 : decode cX10_copy 82 = .ok (.iload_n 3, 1) := by decide +kernel
theorem dX10_copy_83 : decode cX10_copy 83 = .ok (.iaload, 1) := by decide +kernel
theorem dX10_copy_84 : decode cX10_copy 84 = .ok (.if_icmp .eq 6, 3) := by decide +kernel
theorem dX10_copy_87 : decode cX10_copy 87 = .ok (.bipush (-12), 2) := by decide +kernel
theorem dX10_copy_89 : decode cX10_copy 89 = .ok (.ireturn, 1) := by decide +kernel
theorem dX10_copy_90 : decode cX10_copy 90 = .ok (.iload 5, 2) := by decide +kernel
theorem dX10_copy_92 : decode cX10_copy 92 = .ok (.ifCond .lt 39, 3) := by decide +kernel
theorem dX10_copy_95 : decode cX10_copy 95 = .ok (.iload_n 2, 1) := by decide +kernel
theorem dX10_copy_96 : decode cX10_copy 96 = .ok (.ifCond .lt 35, 3) := by decide +kernel
theorem dX10_copy_99 : decode cX10_copy 99 = .ok (.iload 4, 2) := by decide +kernel
theorem dX10_copy_101 : decode cX10_copy 101 = .ok (.ifCond .lt 30, 3) := by decide +kernel
theorem dX10_copy_104 : decode cX10_copy 104 = .ok (.iload_n 2, 1) := by decide +kernel
theorem dX10_copy_105 : decode cX10_copy 105 = .ok (.aload_n 0, 1) := by decide +kernel
theorem dX10_copy_106 : decode cX10_copy 106 = .ok (.getfield 89, 3) := by decide +kernel
theorem dX10_copy_109 : decode cX10_copy 109 = .ok (.iload_n 1, 1) := by decide +kernel
theorem dX10_copy_110 : decode cX10_copy 110 = .ok (.iaload, 1) := by decide +kernel
theorem dX10_copy_111 : decode cX10_copy 111 = .ok (.iload 5, 2) := by decide +kernel
theorem dX10_copy_113 : decode cX10_copy 113 = .ok (.isub, 1) := by decide +kernel
theorem dX10_copy_114 : decode cX10_copy 114 = .ok (.if_icmp .gt 17, 3) := by decide +kernel
theorem dX10_copy_117 : decode cX10_copy 117 = .ok (.iload 4, 2) := by decide +kernel
theorem dX10_copy_119 : decode cX10_copy 119 = .ok (.aload_n 0, 1) := by decide +kernel
theorem dX10_copy_120 : decode cX10_copy 120 = .ok (.getfield 89, 3) := by decide +kernel
theorem dX10_copy_123 : decode cX10_copy 123 = .ok (.iload_n 3, 1) := by decide +kernel
theorem dX10_copy_124 : decode cX10_copy 124 = .ok (.iaload, 1) := by decide +kernel
theorem dX10_copy_125 : decode cX10_copy 125 = .ok (.iload 5, 2) := by decide +kernel
theorem dX10_copy_127 : decode cX10_copy 127 = .ok (.isub, 1) := by decide +kernel
theorem dX10_copy_128 : decode cX10_copy 128 = .ok (.if_icmp .le 6, 3) := by decide +kernel
theorem dX10_copy_131 : decode cX10_copy 131 = .ok (.bipush (-13), 2) := by decide +kernel
theorem dX10_copy_133 : decode cX10_copy 133 = .ok (.ireturn, 1) := by decide +kernel
theorem dX10_copy_134 : decode cX10_copy 134 = .ok (.iconst 0, 1) := by decide +kernel
theorem dX10_copy_135 : decode cX10_copy 135 = .ok (.istore 6, 2) := by decide +kernel
theorem dX10_copy_137 : decode cX10_copy 137 = .ok (.iload 6, 2) := by decide +kernel
theorem dX10_copy_139 : decode cX10_copy 139 = .ok (.iload 5, 2) := by decide +kernel
theorem dX10_copy_141 : decode cX10_copy 141 = .ok (.if_icmp .ge 30, 3) := by decide +kernel
theorem dX10_copy_144 : decode cX10_copy 144 = .ok (.aload_n 0, 1) := by decide +kernel
theorem dX10_copy_145 : decode cX10_copy 145 = .ok (.getfield 96, 3) := by decide +kernel
theorem dX10_copy_148 : decode cX10_copy 148 = .ok (.iload 6, 2) := by decide +kernel
theorem dX10_copy_150 : decode cX10_copy 150 = .ok (.aload_n 0, 1) := by decide +kernel
theorem dX10_copy_151 : decode cX10_copy 151 = .ok (.getfield 92, 3) := by decide +kernel
theorem dX10_copy_154 : decode cX10_copy 154 = .ok (.bipush 100, 2) := by decide +kernel
theorem dX10_copy_156 : decode cX10_copy 156 = .ok (.iload_n 1, 1) := by decide +kernel
theorem dX10_copy_157 : decode cX10_copy 157 = .ok (.imul, 1) := by decide +kernel
theorem dX10_copy_158 : decode cX10_copy 158 = .ok (.iload_n 2, 1) := by decide +kernel
theorem dX10_copy_159 : decode cX10_copy 159 = .ok (.iadd, 1) := by decide +kernel
theorem dX10_copy_160 : decode cX10_copy 160 = .ok (.iload 6, 2) := by decide +kernel
theorem dX10_copy_162 : decode cX10_copy 162 = .ok (.iadd, 1) := by decide +kernel
theorem dX10_copy_163 : decode cX10_copy 163 = .ok (.laload, 1) := by decide +kernel
theorem dX10_copy_164 : decode cX10_copy 164 = .ok (.lastore, 1) := by decide +kernel
theorem dX10_copy_165 : decode cX10_copy 165 = .ok (.iinc 6 1, 3) := by decide +kernel
theorem dX10_copy_168 : decode cX10_copy 168 = .ok (.goto (-31), 3) := by decide +kernel
theorem dX10_copy_171 : decode cX10_copy 171 = .ok (.iconst 0, 1) := by decide +kernel
theorem dX10_copy_172 : decode cX10_copy 172 = .ok (.istore 6, 2) := by decide +kernel
theorem dX10_copy_174 : decode cX10_copy 174 = .ok (.iload 6, 2) := by decide +kernel
theorem dX10_copy_176 : decode cX10_copy 176 = .ok (.iload 5, 2) := by decide +kernel
theorem dX10_copy_178 : decode cX10_copy 178 = .ok (.if_icmp .ge 31, 3) := by decide +kernel
theorem dX10_copy_181 : decode cX10_copy 181 = .ok (.aload_n 0, 1) := by decide +kernel
theorem dX10_copy_182 : decode cX10_copy 182 = .ok (.getfield 92, 3) := by decide +kernel
theorem dX10_copy_185 : decode cX10_copy 185 = .ok (.bipush 100, 2) := by decide +kernel
theorem dX10_copy_187 : decode cX10_copy 187 = .ok (.iload_n 3, 1) := by decide +kernel
theorem dX10_copy_188 : decode cX10_copy 188 = .ok (.imul, 1) := by decide +kernel
theorem dX10_copy_189 : decode cX10_copy 189 = .ok (.iload 4, 2) := by decide +kernel
theorem dX10_copy_191 : decode cX10_copy 191 = .ok (.iadd, 1) := by decide +kernel
theorem dX10_copy_192 : decode cX10_copy 192 = .ok (.iload 6, 2) := by decide +kernel
theorem dX10_copy_194 : decode cX10_copy 194 = .ok (.iadd, 1) := by decide +kernel
theorem dX10_copy_195 : decode cX10_copy 195 = .ok (.aload_n 0, 1) := by decide +kernel
theorem dX10_copy_196 : decode cX10_copy 196 = .ok (.getfield 96, 3) := by decide +kernel
theorem dX10_copy_199 : decode cX10_copy 199 = .ok (.iload 6, 2) := by decide +kernel
theorem dX10_copy_201 : decode cX10_copy 201 = .ok (.laload, 1) := by decide +kernel
theorem dX10_copy_202 : decode cX10_copy 202 = .ok (.lastore, 1) := by decide +kernel
theorem dX10_copy_203 : decode cX10_copy 203 = .ok (.iinc 6 1, 3) := by decide +kernel
theorem dX10_copy_206 : decode cX10_copy 206 = .ok (.goto (-32), 3) := by decide +kernel
theorem dX10_copy_209 : decode cX10_copy 209 = .ok (.iload 5, 2) := by decide +kernel
theorem dX10_copy_211 : decode cX10_copy 211 = .ok (.ireturn, 1) := by decide +kernel
theorem dX10_feeOf_0 : decode cX10_feeOf 0 = .ok (.aload_n 0, 1) := by decide +kernel
theorem dX10_feeOf_1 : decode cX10_feeOf 1 = .ok (.getfield 83, 3) := by decide +kernel
theorem dX10_feeOf_4 : decode cX10_feeOf 4 = .ok (.iload_n 1, 1) := by decide +kernel
theorem dX10_feeOf_5 : decode cX10_feeOf 5 = .ok (.iaload, 1) := by decide +kernel
theorem dX10_feeOf_6 : decode cX10_feeOf 6 = .ok (.bipush 10, 2) := by decide +kernel
theorem dX10_feeOf_8 : decode cX10_feeOf 8 = .ok (.irem, 1) := by decide +kernel
theorem dX10_feeOf_9 : decode cX10_feeOf 9 = .ok (.istore_n 2, 1) := by decide +kernel
theorem dX10_feeOf_10 : decode cX10_feeOf 10 = .ok (.aload_n 0, 1) := by decide +kernel
theorem dX10_feeOf_11 : decode cX10_feeOf 11 = .ok (.getfield 80, 3) := by decide +kernel
theorem dX10_feeOf_14 : decode cX10_feeOf 14 = .ok (.iload_n 1, 1) := by decide +kernel
theorem dX10_feeOf_15 : decode cX10_feeOf 15 = .ok (.iaload, 1) := by decide +kernel
theorem dX10_feeOf_16 : decode cX10_feeOf 16 = .ok (.tableswitch 61 1 6 #[40, 44, 47, 50, 56, 59], 40) := by decide +kernel
theorem dX10_feeOf_56 : decode cX10_feeOf 56 = .ok (.iconst 2, 1) := by decide +kernel
theorem dX10_feeOf_57 : decode cX10_feeOf 57 = .ok (.iload_n 2, 1) := by decide +kernel
theorem dX10_feeOf_58 : decode cX10_feeOf 58 = .ok (.iadd, 1) := by decide +kernel
theorem dX10_feeOf_59 : decode cX10_feeOf 59 = .ok (.ireturn, 1) := by decide +kernel
theorem dX10_feeOf_60 : decode cX10_feeOf 60 = .ok (.bipush 6, 2) := by decide +kernel
theorem dX10_feeOf_62 : decode cX10_feeOf 62 = .ok (.ireturn, 1) := by decide +kernel
theorem dX10_feeOf_63 : decode cX10_feeOf 63 = .ok (.bipush 7, 2) := by decide +kernel
theorem dX10_feeOf_65 : decode cX10_feeOf 65 = .ok (.ireturn, 1) := by decide +kernel
theorem dX10_feeOf_66 : decode cX10_feeOf 66 = .ok (.iconst 4, 1) := by decide +kernel
theorem dX10_feeOf_67 : decode cX10_feeOf 67 = .ok (.iconst 2, 1) := by decide +kernel
theorem dX10_feeOf_68 : decode cX10_feeOf 68 = .ok (.iload_n 2, 1) := by decide +kernel
theorem dX10_feeOf_69 : decode cX10_feeOf 69 = .ok (.imul, 1) := by decide +kernel
theorem dX10_feeOf_70 : decode cX10_feeOf 70 = .ok (.iadd, 1) := by decide +kernel
theorem dX10_feeOf_71 : decode cX10_feeOf 71 = .ok (.ireturn, 1) := by decide +kernel
theorem dX10_feeOf_72 : decode cX10_feeOf 72 = .ok (.bipush 9, 2) := by decide +kernel
theorem dX10_feeOf_74 : decode cX10_feeOf 74 = .ok (.ireturn, 1) := by decide +kernel
theorem dX10_feeOf_75 : decode cX10_feeOf 75 = .ok (.iconst 0, 1) := by decide +kernel
theorem dX10_feeOf_76 : decode cX10_feeOf 76 = .ok (.ireturn, 1) := by decide +kernel
theorem dX10_feeOf_77 : decode cX10_feeOf 77 = .ok (.iconst 2, 1) := by decide +kernel
theorem dX10_feeOf_78 : decode cX10_feeOf 78 = .ok (.ireturn, 1) := by decide +kernel
theorem dX10_fee_0 : decode cX10_fee 0 = .ok (.aload_n 0, 1) := by decide +kernel
theorem dX10_fee_1 : decode cX10_fee 1 = .ok (.iconst 0, 1) := by decide +kernel
theorem dX10_fee_2 : decode cX10_fee 2 = .ok (.putfield 99, 3) := by decide +kernel
theorem dX10_fee_5 : decode cX10_fee 5 = .ok (.aload_n 0, 1) := by decide +kernel
theorem dX10_fee_6 : decode cX10_fee 6 = .ok (.iload_n 1, 1) := by decide +kernel
theorem dX10_fee_7 : decode cX10_fee 7 = .ok (.invokevirtual 243, 3) := by decide +kernel
theorem dX10_fee_10 : decode cX10_fee 10 = .ok (.ifCond .ge 11, 3) := by decide +kernel
theorem dX10_fee_13 : decode cX10_fee 13 = .ok (.aload_n 0, 1) := by decide +kernel
theorem dX10_fee_14 : decode cX10_fee 14 = .ok (.iload_n 1, 1) := by decide +kernel
theorem dX10_fee_15 : decode cX10_fee 15 = .ok (.invokevirtual 243, 3) := by decide +kernel
theorem dX10_fee_18 : decode cX10_fee 18 = .ok (.goto 8, 3) := by decide +kernel
theorem dX10_fee_21 : decode cX10_fee 21 = .ok (.aload_n 0, 1) := by decide +kernel
theorem dX10_fee_22 : decode cX10_fee 22 = .ok (.iload_n 1, 1) := by decide +kernel
theorem dX10_fee_23 : decode cX10_fee 23 = .ok (.invokevirtual 340, 3) := by decide +kernel
theorem dX10_fee_26 : decode cX10_fee 26 = .ok (.ireturn, 1) := by decide +kernel
theorem dX10_toss_0 : decode cX10_toss 0 = .ok (.aload_n 0, 1) := by decide +kernel
theorem dX10_toss_1 : decode cX10_toss 1 = .ok (.iconst 0, 1) := by decide +kernel
theorem dX10_toss_2 : decode cX10_toss 2 = .ok (.putfield 99, 3) := by decide +kernel
theorem dX10_toss_5 : decode cX10_toss 5 = .ok (.aload_n 0, 1) := by decide +kernel
theorem dX10_toss_6 : decode cX10_toss 6 = .ok (.iload_n 1, 1) := by decide +kernel
theorem dX10_toss_7 : decode cX10_toss 7 = .ok (.invokevirtual 243, 3) := by decide +kernel
theorem dX10_toss_10 : decode cX10_toss 10 = .ok (.ifCond .ge 9, 3) := by decide +kernel
theorem dX10_toss_13 : decode cX10_toss 13 = .ok (.aload_n 0, 1) := by decide +kernel
theorem dX10_toss_14 : decode cX10_toss 14 = .ok (.iload_n 1, 1) := by decide +kernel
theorem dX10_toss_15 : decode cX10_toss 15 = .ok (.invokevirtual 243, 3) := by decide +kernel
theorem dX10_toss_18 : decode cX10_toss 18 = .ok (.ireturn, 1) := by decide +kernel
theorem dX10_toss_19 : decode cX10_toss 19 = .ok (.aload_n 0, 1) := by decide +kernel
theorem dX10_toss_20 : decode cX10_toss 20 = .ok (.getfield 83, 3) := by decide +kernel
theorem dX10_toss_23 : decode cX10_toss 23 = .ok (.iload_n 1, 1) := by decide +kernel
theorem dX10_toss_24 : decode cX10_toss 24 = .ok (.iaload, 1) := by decide +kernel
theorem dX10_toss_25 : decode cX10_toss 25 = .ok (.bipush 10, 2) := by decide +kernel
theorem dX10_toss_27 : decode cX10_toss 27 = .ok (.irem, 1) := by decide +kernel
theorem dX10_toss_28 : decode cX10_toss 28 = .ok (.istore_n 2, 1) := by decide +kernel
theorem dX10_toss_29 : decode cX10_toss 29 = .ok (.aload_n 0, 1) := by decide +kernel
theorem dX10_toss_30 : decode cX10_toss 30 = .ok (.getfield 80, 3) := by decide +kernel
theorem dX10_toss_33 : decode cX10_toss 33 = .ok (.iload_n 1, 1) := by decide +kernel
theorem dX10_toss_34 : decode cX10_toss 34 = .ok (.iaload, 1) := by decide +kernel
theorem dX10_toss_35 : decode cX10_toss 35 = .ok (.bipush 6, 2) := by decide +kernel
theorem dX10_toss_37 : decode cX10_toss 37 = .ok (.if_icmp .eq 7, 3) := by decide +kernel
theorem dX10_toss_40 : decode cX10_toss 40 = .ok (.iload_n 2, 1) := by decide +kernel
theorem dX10_toss_41 : decode cX10_toss 41 = .ok (.ifCond .ne 6, 3) := by decide +kernel
theorem dX10_toss_44 : decode cX10_toss 44 = .ok (.bipush (-15), 2) := by decide +kernel
theorem dX10_toss_46 : decode cX10_toss 46 = .ok (.ireturn, 1) := by decide +kernel
theorem dX10_toss_47 : decode cX10_toss 47 = .ok (.aload_n 0, 1) := by decide +kernel
theorem dX10_toss_48 : decode cX10_toss 48 = .ok (.getfield 80, 3) := by decide +kernel
theorem dX10_toss_51 : decode cX10_toss 51 = .ok (.iload_n 1, 1) := by decide +kernel
theorem dX10_toss_52 : decode cX10_toss 52 = .ok (.iaload, 1) := by decide +kernel
theorem dX10_toss_53 : decode cX10_toss 53 = .ok (.iconst 3, 1) := by decide +kernel
theorem dX10_toss_54 : decode cX10_toss 54 = .ok (.if_icmp .ne 10, 3) := by decide +kernel
theorem dX10_toss_57 : decode cX10_toss 57 = .ok (.bipush 100, 2) := by decide +kernel
theorem dX10_toss_59 : decode cX10_toss 59 = .ok (.iload_n 2, 1) := by decide +kernel
theorem dX10_toss_60 : decode cX10_toss 60 = .ok (.iadd, 1) := by decide +kernel
theorem dX10_toss_61 : decode cX10_toss 61 = .ok (.goto 27, 3) := by decide +kernel
theorem dX10_toss_64 : decode cX10_toss 64 = .ok (.aload_n 0, 1) := by decide +kernel
theorem dX10_toss_65 : decode cX10_toss 65 = .ok (.getfield 80, 3) := by decide +kernel
theorem dX10_toss_68 : decode cX10_toss 68 = .ok (.iload_n 1, 1) := by decide +kernel
theorem dX10_toss_69 : decode cX10_toss 69 = .ok (.iaload, 1) := by decide +kernel
theorem dX10_toss_70 : decode cX10_toss 70 = .ok (.bipush 7, 2) := by decide +kernel
theorem dX10_toss_72 : decode cX10_toss 72 = .ok (.if_icmp .ne 15, 3) := by decide +kernel
theorem dX10_toss_75 : decode cX10_toss 75 = .ok (.sipush 200, 3) := by decide +kernel
theorem dX10_toss_78 : decode cX10_toss 78 = .ok (.aload_n 0, 1) := by decide +kernel
theorem dX10_toss_79 : decode cX10_toss 79 = .ok (.iload_n 1, 1) := by decide +kernel
theorem dX10_toss_80 : decode cX10_toss 80 = .ok (.invokevirtual 340, 3) := by decide +kernel
theorem dX10_toss_83 : decode cX10_toss 83 = .ok (.iadd, 1) := by decide +kernel
theorem dX10_toss_84 : decode cX10_toss 84 = .ok (.goto 4, 3) := by decide +kernel
theorem dX10_toss_87 : decode cX10_toss 87 = .ok (.iload_n 2, 1) := by decide +kernel
theorem dX10_toss_88 : decode cX10_toss 88 = .ok (.ireturn, 1) := by decide +kernel
theorem dJ6_bitCount_0f7a4_0 : decode cJ6_bitCount_0f7a4 0 = .ok (.iload_n 0, 1) := by decide +kernel
theorem dJ6_bitCount_0f7a4_1 : decode cJ6_bitCount_0f7a4 1 = .ok (.iload_n 0, 1) := by decide +kernel
theorem dJ6_bitCount_0f7a4_2 : decode cJ6_bitCount_0f7a4 2 = .ok (.iconst 1, 1) := by decide +kernel
theorem dJ6_bitCount_0f7a4_3 : decode cJ6_bitCount_0f7a4 3 = .ok (.iushr, 1) := by decide +kernel
theorem dJ6_bitCount_0f7a4_4 : decode cJ6_bitCount_0f7a4 4 = .ok (.ldc_w 265, 3) := by decide +kernel
theorem dJ6_bitCount_0f7a4_7 : decode cJ6_bitCount_0f7a4 7 = .ok (.iand, 1) := by decide +kernel
theorem dJ6_bitCount_0f7a4_8 : decode cJ6_bitCount_0f7a4 8 = .ok (.isub, 1) := by decide +kernel
theorem dJ6_bitCount_0f7a4_9 : decode cJ6_bitCount_0f7a4 9 = .ok (.istore_n 0, 1) := by decide +kernel
theorem dJ6_bitCount_0f7a4_10 : decode cJ6_bitCount_0f7a4 10 = .ok (.iload_n 0, 1) := by decide +kernel
theorem dJ6_bitCount_0f7a4_11 : decode cJ6_bitCount_0f7a4 11 = .ok (.ldc_w 266, 3) := by decide +kernel
theorem dJ6_bitCount_0f7a4_14 : decode cJ6_bitCount_0f7a4 14 = .ok (.iand, 1) := by decide +kernel
theorem dJ6_bitCount_0f7a4_15 : decode cJ6_bitCount_0f7a4 15 = .ok (.iload_n 0, 1) := by decide +kernel
theorem dJ6_bitCount_0f7a4_16 : decode cJ6_bitCount_0f7a4 16 = .ok (.iconst 2, 1) := by decide +kernel
theorem dJ6_bitCount_0f7a4_17 : decode cJ6_bitCount_0f7a4 17 = .ok (.iushr, 1) := by decide +kernel
theorem dJ6_bitCount_0f7a4_18 : decode cJ6_bitCount_0f7a4 18 = .ok (.ldc_w 266, 3) := by decide +kernel
theorem dJ6_bitCount_0f7a4_21 : decode cJ6_bitCount_0f7a4 21 = .ok (.iand, 1) := by decide +kernel
theorem dJ6_bitCount_0f7a4_22 : decode cJ6_bitCount_0f7a4 22 = .ok (.iadd, 1) := by decide +kernel
theorem dJ6_bitCount_0f7a4_23 : decode cJ6_bitCount_0f7a4 23 = .ok (.istore_n 0, 1) := by decide +kernel
theorem dJ6_bitCount_0f7a4_24 : decode cJ6_bitCount_0f7a4 24 = .ok (.iload_n 0, 1) := by decide +kernel
theorem dJ6_bitCount_0f7a4_25 : decode cJ6_bitCount_0f7a4 25 = .ok (.iload_n 0, 1) := by decide +kernel
theorem dJ6_bitCount_0f7a4_26 : decode cJ6_bitCount_0f7a4 26 = .ok (.iconst 4, 1) := by decide +kernel
theorem dJ6_bitCount_0f7a4_27 : decode cJ6_bitCount_0f7a4 27 = .ok (.iushr, 1) := by decide +kernel
theorem dJ6_bitCount_0f7a4_28 : decode cJ6_bitCount_0f7a4 28 = .ok (.iadd, 1) := by decide +kernel
theorem dJ6_bitCount_0f7a4_29 : decode cJ6_bitCount_0f7a4 29 = .ok (.ldc_w 267, 3) := by decide +kernel
theorem dJ6_bitCount_0f7a4_32 : decode cJ6_bitCount_0f7a4 32 = .ok (.iand, 1) := by decide +kernel
theorem dJ6_bitCount_0f7a4_33 : decode cJ6_bitCount_0f7a4 33 = .ok (.istore_n 0, 1) := by decide +kernel
theorem dJ6_bitCount_0f7a4_34 : decode cJ6_bitCount_0f7a4 34 = .ok (.iload_n 0, 1) := by decide +kernel
theorem dJ6_bitCount_0f7a4_35 : decode cJ6_bitCount_0f7a4 35 = .ok (.iload_n 0, 1) := by decide +kernel
theorem dJ6_bitCount_0f7a4_36 : decode cJ6_bitCount_0f7a4 36 = .ok (.bipush 8, 2) := by decide +kernel
theorem dJ6_bitCount_0f7a4_38 : decode cJ6_bitCount_0f7a4 38 = .ok (.iushr, 1) := by decide +kernel
theorem dJ6_bitCount_0f7a4_39 : decode cJ6_bitCount_0f7a4 39 = .ok (.iadd, 1) := by decide +kernel
theorem dJ6_bitCount_0f7a4_40 : decode cJ6_bitCount_0f7a4 40 = .ok (.istore_n 0, 1) := by decide +kernel
theorem dJ6_bitCount_0f7a4_41 : decode cJ6_bitCount_0f7a4 41 = .ok (.iload_n 0, 1) := by decide +kernel
theorem dJ6_bitCount_0f7a4_42 : decode cJ6_bitCount_0f7a4 42 = .ok (.iload_n 0, 1) := by decide +kernel
theorem dJ6_bitCount_0f7a4_43 : decode cJ6_bitCount_0f7a4 43 = .ok (.bipush 16, 2) := by decide +kernel
theorem dJ6_bitCount_0f7a4_45 : decode cJ6_bitCount_0f7a4 45 = .ok (.iushr, 1) := by decide +kernel
theorem dJ6_bitCount_0f7a4_46 : decode cJ6_bitCount_0f7a4 46 = .ok (.iadd, 1) := by decide +kernel
theorem dJ6_bitCount_0f7a4_47 : decode cJ6_bitCount_0f7a4 47 = .ok (.istore_n 0, 1) := by decide +kernel
theorem dJ6_bitCount_0f7a4_48 : decode cJ6_bitCount_0f7a4 48 = .ok (.iload_n 0, 1) := by decide +kernel
theorem dJ6_bitCount_0f7a4_49 : decode cJ6_bitCount_0f7a4 49 = .ok (.bipush 63, 2) := by decide +kernel
theorem dJ6_bitCount_0f7a4_51 : decode cJ6_bitCount_0f7a4 51 = .ok (.iand, 1) := by decide +kernel
theorem dJ6_bitCount_0f7a4_52 : decode cJ6_bitCount_0f7a4 52 = .ok (.ireturn, 1) := by decide +kernel
theorem dJ9_max_7cf53_0 : decode cJ9_max_7cf53 0 = .ok (.iload_n 0, 1) := by decide +kernel
theorem dJ9_max_7cf53_1 : decode cJ9_max_7cf53 1 = .ok (.iload_n 1, 1) := by decide +kernel
theorem dJ9_max_7cf53_2 : decode cJ9_max_7cf53 2 = .ok (.if_icmp .lt 7, 3) := by decide +kernel
theorem dJ9_max_7cf53_5 : decode cJ9_max_7cf53 5 = .ok (.iload_n 0, 1) := by decide +kernel
theorem dJ9_max_7cf53_6 : decode cJ9_max_7cf53 6 = .ok (.goto 4, 3) := by decide +kernel
theorem dJ9_max_7cf53_9 : decode cJ9_max_7cf53 9 = .ok (.iload_n 1, 1) := by decide +kernel
theorem dJ9_max_7cf53_10 : decode cJ9_max_7cf53 10 = .ok (.ireturn, 1) := by decide +kernel
theorem dJ9_min_7cf53_0 : decode cJ9_min_7cf53 0 = .ok (.iload_n 0, 1) := by decide +kernel
theorem dJ9_min_7cf53_1 : decode cJ9_min_7cf53 1 = .ok (.iload_n 1, 1) := by decide +kernel
theorem dJ9_min_7cf53_2 : decode cJ9_min_7cf53 2 = .ok (.if_icmp .gt 7, 3) := by decide +kernel
theorem dJ9_min_7cf53_5 : decode cJ9_min_7cf53 5 = .ok (.iload_n 0, 1) := by decide +kernel
theorem dJ9_min_7cf53_6 : decode cJ9_min_7cf53 6 = .ok (.goto 4, 3) := by decide +kernel
theorem dJ9_min_7cf53_9 : decode cJ9_min_7cf53 9 = .ok (.iload_n 1, 1) := by decide +kernel
theorem dJ9_min_7cf53_10 : decode cJ9_min_7cf53 10 = .ok (.ireturn, 1) := by decide +kernel
theorem dJ7_fill_53178_0 : decode cJ7_fill_53178 0 = .ok (.iconst 0, 1) := by decide +kernel
theorem dJ7_fill_53178_1 : decode cJ7_fill_53178 1 = .ok (.istore_n 2, 1) := by decide +kernel
theorem dJ7_fill_53178_2 : decode cJ7_fill_53178 2 = .ok (.aload_n 0, 1) := by decide +kernel
theorem dJ7_fill_53178_3 : decode cJ7_fill_53178 3 = .ok (.arraylength, 1) := by decide +kernel
theorem dJ7_fill_53178_4 : decode cJ7_fill_53178 4 = .ok (.istore_n 3, 1) := by decide +kernel
theorem dJ7_fill_53178_5 : decode cJ7_fill_53178 5 = .ok (.iload_n 2, 1) := by decide +kernel
theorem dJ7_fill_53178_6 : decode cJ7_fill_53178 6 = .ok (.iload_n 3, 1) := by decide +kernel
theorem dJ7_fill_53178_7 : decode cJ7_fill_53178 7 = .ok (.if_icmp .ge 13, 3) := by decide +kernel
theorem dJ7_fill_53178_10 : decode cJ7_fill_53178 10 = .ok (.aload_n 0, 1) := by decide +kernel
theorem dJ7_fill_53178_11 : decode cJ7_fill_53178 11 = .ok (.iload_n 2, 1) := by decide +kernel
theorem dJ7_fill_53178_12 : decode cJ7_fill_53178 12 = .ok (.iload_n 1, 1) := by decide +kernel
theorem dJ7_fill_53178_13 : decode cJ7_fill_53178 13 = .ok (.iastore, 1) := by decide +kernel
theorem dJ7_fill_53178_14 : decode cJ7_fill_53178 14 = .ok (.iinc 2 1, 3) := by decide +kernel
theorem dJ7_fill_53178_17 : decode cJ7_fill_53178 17 = .ok (.goto (-12), 3) := by decide +kernel
theorem dJ7_fill_53178_20 : decode cJ7_fill_53178 20 = .ok (.return_, 1) := by decide +kernel
theorem dL_element_0 : decode cL_element 0 = .ok (.aload_n 3, 1) := by decide +kernel
theorem dL_element_1 : decode cL_element 1 = .ok (.iconst 0, 1) := by decide +kernel
theorem dL_element_2 : decode cL_element 2 = .ok (.aload_n 0, 1) := by decide +kernel
theorem dL_element_3 : decode cL_element 3 = .ok (.iload_n 1, 1) := by decide +kernel
theorem dL_element_4 : decode cL_element 4 = .ok (.iload_n 2, 1) := by decide +kernel
theorem dL_element_5 : decode cL_element 5 = .ok (.invokevirtual 7, 3) := by decide +kernel
theorem dL_element_8 : decode cL_element 8 = .ok (.lastore, 1) := by decide +kernel
theorem dL_element_9 : decode cL_element 9 = .ok (.goto 11, 3) := by decide +kernel
theorem dL_element_12 : decode cL_element 12 = .ok (.astore 4, 2) := by decide +kernel
theorem dL_element_14 : decode cL_element 14 = .ok (.iconst 1, 1) := by decide +kernel
theorem dL_element_15 : decode cL_element 15 = .ok (.ireturn, 1) := by decide +kernel
theorem dL_element_16 : decode cL_element 16 = .ok (.astore 4, 2) := by decide +kernel
theorem dL_element_18 : decode cL_element 18 = .ok (.iconst 2, 1) := by decide +kernel
theorem dL_element_19 : decode cL_element 19 = .ok (.ireturn, 1) := by decide +kernel
theorem dL_element_20 : decode cL_element 20 = .ok (.iconst 0, 1) := by decide +kernel
theorem dL_element_21 : decode cL_element 21 = .ok (.ireturn, 1) := by decide +kernel
theorem dL_law_0 : decode cL_law 0 = .ok (.new 8, 3) := by decide +kernel
theorem dL_law_3 : decode cL_law 3 = .ok (.dup, 1) := by decide +kernel
theorem dL_law_4 : decode cL_law 4 = .ok (.invokespecial 17, 3) := by decide +kernel
theorem dL_law_7 : decode cL_law 7 = .ok (.astore_n 1, 1) := by decide +kernel
theorem dL_law_8 : decode cL_law 8 = .ok (.new 18, 3) := by decide +kernel
theorem dL_law_11 : decode cL_law 11 = .ok (.dup, 1) := by decide +kernel
theorem dL_law_12 : decode cL_law 12 = .ok (.invokespecial 20, 3) := by decide +kernel
theorem dL_law_15 : decode cL_law 15 = .ok (.astore_n 2, 1) := by decide +kernel
theorem dL_law_16 : decode cL_law 16 = .ok (.iconst 1, 1) := by decide +kernel
theorem dL_law_17 : decode cL_law 17 = .ok (.newarray .long, 2) := by decide +kernel
theorem dL_law_19 : decode cL_law 19 = .ok (.astore_n 3, 1) := by decide +kernel
theorem dL_law_20 : decode cL_law 20 = .ok (.iconst 0, 1) := by decide +kernel
theorem dL_law_21 : decode cL_law 21 = .ok (.istore 4, 2) := by decide +kernel
theorem dL_law_23 : decode cL_law 23 = .ok (.iload 4, 2) := by decide +kernel
theorem dL_law_25 : decode cL_law 25 = .ok (.aload_n 0, 1) := by decide +kernel
theorem dL_law_26 : decode cL_law 26 = .ok (.arraylength, 1) := by decide +kernel
theorem dL_law_27 : decode cL_law 27 = .ok (.bipush 6, 2) := by decide +kernel
theorem dL_law_29 : decode cL_law 29 = .ok (.isub, 1) := by decide +kernel
theorem dL_law_30 : decode cL_law 30 = .ok (.if_icmp .gt 1223, 3) := by decide +kernel
theorem dL_law_33 : decode cL_law 33 = .ok (.aload_n 0, 1) := by decide +kernel
theorem dL_law_34 : decode cL_law 34 = .ok (.iload 4, 2) := by decide +kernel
theorem dL_law_36 : decode cL_law 36 = .ok (.iaload, 1) := by decide +kernel
theorem dL_law_37 : decode cL_law 37 = .ok (.bipush 63, 2) := by decide +kernel
theorem dL_law_39 : decode cL_law 39 = .ok (.iand, 1) := by decide +kernel
theorem dL_law_40 : decode cL_law 40 = .ok (.tableswitch 1207 0 32 #[148, 173, 210, 247, 284, 321, 358, 395, 408, 421, 458, 483, 508, 533, 570, 595, 620, 645, 682, 695, 720, 733, 770, 807, 820, 833, 858, 919, 968, 1017, 1084, 1157, 1182], 148) := by decide +kernel
theorem dL_law_188 : decode cL_law 188 = .ok (.aload_n 1, 1) := by decide +kernel
theorem dL_law_189 : decode cL_law 189 = .ok (.aload_n 0, 1) := by decide +kernel
theorem dL_law_190 : decode cL_law 190 = .ok (.iload 4, 2) := by decide +kernel
theorem dL_law_192 : decode cL_law 192 = .ok (.iconst 1, 1) := by decide +kernel
theorem dL_law_193 : decode cL_law 193 = .ok (.iadd, 1) := by decide +kernel
theorem dL_law_194 : decode cL_law 194 = .ok (.iaload, 1) := by decide +kernel
theorem dL_law_195 : decode cL_law 195 = .ok (.invokevirtual 21, 3) := by decide +kernel
theorem dL_law_198 : decode cL_law 198 = .ok (.aload_n 2, 1) := by decide +kernel
theorem dL_law_199 : decode cL_law 199 = .ok (.aload_n 0, 1) := by decide +kernel
theorem dL_law_200 : decode cL_law 200 = .ok (.iload 4, 2) := by decide +kernel
theorem dL_law_202 : decode cL_law 202 = .ok (.iconst 1, 1) := by decide +kernel
theorem dL_law_203 : decode cL_law 203 = .ok (.iadd, 1) := by decide +kernel
theorem dL_law_204 : decode cL_law 204 = .ok (.iaload, 1) := by decide +kernel
theorem dL_law_205 : decode cL_law 205 = .ok (.invokevirtual 25, 3) := by decide +kernel
theorem dL_law_208 : decode cL_law 208 = .ok (.if_icmp .eq 1039, 3) := by decide +kernel
theorem dL_law_211 : decode cL_law 211 = .ok (.iconst 0, 1) := by decide +kernel
theorem dL_law_212 : decode cL_law 212 = .ok (.ireturn, 1) := by decide +kernel
theorem dL_law_213 : decode cL_law 213 = .ok (.aload_n 1, 1) := by decide +kernel
theorem dL_law_214 : decode cL_law 214 = .ok (.aload_n 0, 1) := by decide +kernel
theorem dL_law_215 : decode cL_law 215 = .ok (.iload 4, 2) := by decide +kernel
theorem dL_law_217 : decode cL_law 217 = .ok (.iconst 1, 1) := by decide +kernel
theorem dL_law_218 : decode cL_law 218 = .ok (.iadd, 1) := by decide +kernel
theorem dL_law_219 : decode cL_law 219 = .ok (.iaload, 1) := by decide +kernel
theorem dL_law_220 : decode cL_law 220 = .ok (.aload_n 0, 1) := by decide +kernel
theorem dL_law_221 : decode cL_law 221 = .ok (.iload 4, 2) := by decide +kernel
theorem dL_law_223 : decode cL_law 223 = .ok (.iconst 2, 1) := by decide +kernel
theorem dL_law_224 : decode cL_law 224 = .ok (.iadd, 1) := by decide +kernel
theorem dL_law_225 : decode cL_law 225 = .ok (.iaload, 1) := by decide +kernel
theorem dL_law_226 : decode cL_law 226 = .ok (.invokevirtual 26, 3) := by decide +kernel
theorem dL_law_229 : decode cL_law 229 = .ok (.aload_n 2, 1) := by decide +kernel
theorem dL_law_230 : decode cL_law 230 = .ok (.aload_n 0, 1) := by decide +kernel
theorem dL_law_231 : decode cL_law 231 = .ok (.iload 4, 2) := by decide +kernel
theorem dL_law_233 : decode cL_law 233 = .ok (.iconst 1, 1) := by decide +kernel
theorem dL_law_234 : decode cL_law 234 = .ok (.iadd, 1) := by decide +kernel
theorem dL_law_235 : decode cL_law 235 = .ok (.iaload, 1) := by decide +kernel
theorem dL_law_236 : decode cL_law 236 = .ok (.aload_n 0, 1) := by decide +kernel
theorem dL_law_237 : decode cL_law 237 = .ok (.iload 4, 2) := by decide +kernel
theorem dL_law_239 : decode cL_law 239 = .ok (.iconst 2, 1) := by decide +kernel
theorem dL_law_240 : decode cL_law 240 = .ok (.iadd, 1) := by decide +kernel
theorem dL_law_241 : decode cL_law 241 = .ok (.iaload, 1) := by decide +kernel
theorem dL_law_242 : decode cL_law 242 = .ok (.invokevirtual 30, 3) := by decide +kernel
theorem dL_law_245 : decode cL_law 245 = .ok (.if_icmp .eq 1002, 3) := by decide +kernel
theorem dL_law_248 : decode cL_law 248 = .ok (.iconst 0, 1) := by decide +kernel
theorem dL_law_249 : decode cL_law 249 = .ok (.ireturn, 1) := by decide +kernel
theorem dL_law_250 : decode cL_law 250 = .ok (.aload_n 1, 1) := by decide +kernel
theorem dL_law_251 : decode cL_law 251 = .ok (.aload_n 0, 1) := by decide +kernel
theorem dL_law_252 : decode cL_law 252 = .ok (.iload 4, 2) := by decide +kernel
theorem dL_law_254 : decode cL_law 254 = .ok (.iconst 1, 1) := by decide +kernel
theorem dL_law_255 : decode cL_law 255 = .ok (.iadd, 1) := by decide +kernel
theorem dL_law_256 : decode cL_law 256 = .ok (.iaload, 1) := by decide +kernel
theorem dL_law_257 : decode cL_law 257 = .ok (.aload_n 0, 1) := by decide +kernel
theorem dL_law_258 : decode cL_law 258 = .ok (.iload 4, 2) := by decide +kernel
theorem dL_law_260 : decode cL_law 260 = .ok (.iconst 2, 1) := by decide +kernel
theorem dL_law_261 : decode cL_law 261 = .ok (.iadd, 1) := by decide +kernel
theorem dL_law_262 : decode cL_law 262 = .ok (.iaload, 1) := by decide +kernel
theorem dL_law_263 : decode cL_law 263 = .ok (.invokevirtual 31, 3) := by decide +kernel
theorem dL_law_266 : decode cL_law 266 = .ok (.aload_n 2, 1) := by decide +kernel
theorem dL_law_267 : decode cL_law 267 = .ok (.aload_n 0, 1) := by decide +kernel
theorem dL_law_268 : decode cL_law 268 = .ok (.iload 4, 2) := by decide +kernel
theorem dL_law_270 : decode cL_law 270 = .ok (.iconst 1, 1) := by decide +kernel
theorem dL_law_271 : decode cL_law 271 = .ok (.iadd, 1) := by decide +kernel
theorem dL_law_272 : decode cL_law 272 = .ok (.iaload, 1) := by decide +kernel
theorem dL_law_273 : decode cL_law 273 = .ok (.aload_n 0, 1) := by decide +kernel
theorem dL_law_274 : decode cL_law 274 = .ok (.iload 4, 2) := by decide +kernel
theorem dL_law_276 : decode cL_law 276 = .ok (.iconst 2, 1) := by decide +kernel
theorem dL_law_277 : decode cL_law 277 = .ok (.iadd, 1) := by decide +kernel
theorem dL_law_278 : decode cL_law 278 = .ok (.iaload, 1) := by decide +kernel
theorem dL_law_279 : decode cL_law 279 = .ok (.invokevirtual 34, 3) := by decide +kernel
theorem dL_law_282 : decode cL_law 282 = .ok (.if_icmp .eq 965, 3) := by decide +kernel
theorem dL_law_285 : decode cL_law 285 = .ok (.iconst 0, 1) := by decide +kernel
theorem dL_law_286 : decode cL_law 286 = .ok (.ireturn, 1) := by decide +kernel
theorem dL_law_287 : decode cL_law 287 = .ok (.aload_n 1, 1) := by decide +kernel
theorem dL_law_288 : decode cL_law 288 = .ok (.aload_n 0, 1) := by decide +kernel
theorem dL_law_289 : decode cL_law 289 = .ok (.iload 4, 2) := by decide +kernel
theorem dL_law_291 : decode cL_law 291 = .ok (.iconst 1, 1) := by decide +kernel
theorem dL_law_292 : decode cL_law 292 = .ok (.iadd, 1) := by decide +kernel
theorem dL_law_293 : decode cL_law 293 = .ok (.iaload, 1) := by decide +kernel
theorem dL_law_294 : decode cL_law 294 = .ok (.aload_n 0, 1) := by decide +kernel
theorem dL_law_295 : decode cL_law 295 = .ok (.iload 4, 2) := by decide +kernel
theorem dL_law_297 : decode cL_law 297 = .ok (.iconst 2, 1) := by decide +kernel
theorem dL_law_298 : decode cL_law 298 = .ok (.iadd, 1) := by decide +kernel
theorem dL_law_299 : decode cL_law 299 = .ok (.iaload, 1) := by decide +kernel
theorem dL_law_300 : decode cL_law 300 = .ok (.invokevirtual 35, 3) := by decide +kernel
theorem dL_law_303 : decode cL_law 303 = .ok (.aload_n 2, 1) := by decide +kernel
theorem dL_law_304 : decode cL_law 304 = .ok (.aload_n 0, 1) := by decide +kernel
theorem dL_law_305 : decode cL_law 305 = .ok (.iload 4, 2) := by decide +kernel
theorem dL_law_307 : decode cL_law 307 = .ok (.iconst 1, 1) := by decide +kernel
theorem dL_law_308 : decode cL_law 308 = .ok (.iadd, 1) := by decide +kernel
theorem dL_law_309 : decode cL_law 309 = .ok (.iaload, 1) := by decide +kernel
theorem dL_law_310 : decode cL_law 310 = .ok (.aload_n 0, 1) := by decide +kernel
theorem dL_law_311 : decode cL_law 311 = .ok (.iload 4, 2) := by decide +kernel
theorem dL_law_313 : decode cL_law 313 = .ok (.iconst 2, 1) := by decide +kernel
theorem dL_law_314 : decode cL_law 314 = .ok (.iadd, 1) := by decide +kernel
theorem dL_law_315 : decode cL_law 315 = .ok (.iaload, 1) := by decide +kernel
theorem dL_law_316 : decode cL_law 316 = .ok (.invokevirtual 38, 3) := by decide +kernel
theorem dL_law_319 : decode cL_law 319 = .ok (.if_icmp .eq 928, 3) := by decide +kernel
theorem dL_law_322 : decode cL_law 322 = .ok (.iconst 0, 1) := by decide +kernel
theorem dL_law_323 : decode cL_law 323 = .ok (.ireturn, 1) := by decide +kernel
theorem dL_law_324 : decode cL_law 324 = .ok (.aload_n 1, 1) := by decide +kernel
theorem dL_law_325 : decode cL_law 325 = .ok (.aload_n 0, 1) := by decide +kernel
theorem dL_law_326 : decode cL_law 326 = .ok (.iload 4, 2) := by decide +kernel
theorem dL_law_328 : decode cL_law 328 = .ok (.iconst 1, 1) := by decide +kernel
theorem dL_law_329 : decode cL_law 329 = .ok (.iadd, 1) := by decide +kernel
theorem dL_law_330 : decode cL_law 330 = .ok (.iaload, 1) := by decide +kernel
theorem dL_law_331 : decode cL_law 331 = .ok (.aload_n 0, 1) := by decide +kernel
theorem dL_law_332 : decode cL_law 332 = .ok (.iload 4, 2) := by decide +kernel
theorem dL_law_334 : decode cL_law 334 = .ok (.iconst 2, 1) := by decide +kernel
theorem dL_law_335 : decode cL_law 335 = .ok (.iadd, 1) := by decide +kernel
theorem dL_law_336 : decode cL_law 336 = .ok (.iaload, 1) := by decide +kernel
theorem dL_law_337 : decode cL_law 337 = .ok (.invokevirtual 39, 3) := by decide +kernel
theorem dL_law_340 : decode cL_law 340 = .ok (.aload_n 2, 1) := by decide +kernel
theorem dL_law_341 : decode cL_law 341 = .ok (.aload_n 0, 1) := by decide +kernel
theorem dL_law_342 : decode cL_law 342 = .ok (.iload 4, 2) := by decide +kernel
theorem dL_law_344 : decode cL_law 344 = .ok (.iconst 1, 1) := by decide +kernel
theorem dL_law_345 : decode cL_law 345 = .ok (.iadd, 1) := by decide +kernel
theorem dL_law_346 : decode cL_law 346 = .ok (.iaload, 1) := by decide +kernel
theorem dL_law_347 : decode cL_law 347 = .ok (.aload_n 0, 1) := by decide +kernel
theorem dL_law_348 : decode cL_law 348 = .ok (.iload 4, 2) := by decide +kernel
theorem dL_law_350 : decode cL_law 350 = .ok (.iconst 2, 1) := by decide +kernel
theorem dL_law_351 : decode cL_law 351 = .ok (.iadd, 1) := by decide +kernel
theorem dL_law_352 : decode cL_law 352 = .ok (.iaload, 1) := by decide +kernel
theorem dL_law_353 : decode cL_law 353 = .ok (.invokevirtual 42, 3) := by decide +kernel
theorem dL_law_356 : decode cL_law 356 = .ok (.if_icmp .eq 891, 3) := by decide +kernel
theorem dL_law_359 : decode cL_law 359 = .ok (.iconst 0, 1) := by decide +kernel
theorem dL_law_360 : decode cL_law 360 = .ok (.ireturn, 1) := by decide +kernel
theorem dL_law_361 : decode cL_law 361 = .ok (.aload_n 1, 1) := by decide +kernel
theorem dL_law_362 : decode cL_law 362 = .ok (.aload_n 0, 1) := by decide +kernel
theorem dL_law_363 : decode cL_law 363 = .ok (.iload 4, 2) := by decide +kernel
theorem dL_law_365 : decode cL_law 365 = .ok (.iconst 1, 1) := by decide +kernel
theorem dL_law_366 : decode cL_law 366 = .ok (.iadd, 1) := by decide +kernel
theorem dL_law_367 : decode cL_law 367 = .ok (.iaload, 1) := by decide +kernel
theorem dL_law_368 : decode cL_law 368 = .ok (.aload_n 0, 1) := by decide +kernel
theorem dL_law_369 : decode cL_law 369 = .ok (.iload 4, 2) := by decide +kernel
theorem dL_law_371 : decode cL_law 371 = .ok (.iconst 2, 1) := by decide +kernel
theorem dL_law_372 : decode cL_law 372 = .ok (.iadd, 1) := by decide +kernel
theorem dL_law_373 : decode cL_law 373 = .ok (.iaload, 1) := by decide +kernel
theorem dL_law_374 : decode cL_law 374 = .ok (.invokevirtual 43, 3) := by decide +kernel
theorem dL_law_377 : decode cL_law 377 = .ok (.aload_n 2, 1) := by decide +kernel
theorem dL_law_378 : decode cL_law 378 = .ok (.aload_n 0, 1) := by decide +kernel
theorem dL_law_379 : decode cL_law 379 = .ok (.iload 4, 2) := by decide +kernel
theorem dL_law_381 : decode cL_law 381 = .ok (.iconst 1, 1) := by decide +kernel
theorem dL_law_382 : decode cL_law 382 = .ok (.iadd, 1) := by decide +kernel
theorem dL_law_383 : decode cL_law 383 = .ok (.iaload, 1) := by decide +kernel
theorem dL_law_384 : decode cL_law 384 = .ok (.aload_n 0, 1) := by decide +kernel
theorem dL_law_385 : decode cL_law 385 = .ok (.iload 4, 2) := by decide +kernel
theorem dL_law_387 : decode cL_law 387 = .ok (.iconst 2, 1) := by decide +kernel
theorem dL_law_388 : decode cL_law 388 = .ok (.iadd, 1) := by decide +kernel
theorem dL_law_389 : decode cL_law 389 = .ok (.iaload, 1) := by decide +kernel
theorem dL_law_390 : decode cL_law 390 = .ok (.invokevirtual 46, 3) := by decide +kernel
theorem dL_law_393 : decode cL_law 393 = .ok (.if_icmp .eq 854, 3) := by decide +kernel
theorem dL_law_396 : decode cL_law 396 = .ok (.iconst 0, 1) := by decide +kernel
theorem dL_law_397 : decode cL_law 397 = .ok (.ireturn, 1) := by decide +kernel
theorem dL_law_398 : decode cL_law 398 = .ok (.aload_n 1, 1) := by decide +kernel
theorem dL_law_399 : decode cL_law 399 = .ok (.aload_n 0, 1) := by decide +kernel
theorem dL_law_400 : decode cL_law 400 = .ok (.iload 4, 2) := by decide +kernel
theorem dL_law_402 : decode cL_law 402 = .ok (.iconst 1, 1) := by decide +kernel
theorem dL_law_403 : decode cL_law 403 = .ok (.iadd, 1) := by decide +kernel
theorem dL_law_404 : decode cL_law 404 = .ok (.iaload, 1) := by decide +kernel
theorem dL_law_405 : decode cL_law 405 = .ok (.aload_n 0, 1) := by decide +kernel
theorem dL_law_406 : decode cL_law 406 = .ok (.iload 4, 2) := by decide +kernel
theorem dL_law_408 : decode cL_law 408 = .ok (.iconst 2, 1) := by decide +kernel
theorem dL_law_409 : decode cL_law 409 = .ok (.iadd, 1) := by decide +kernel
theorem dL_law_410 : decode cL_law 410 = .ok (.iaload, 1) := by decide +kernel
theorem dL_law_411 : decode cL_law 411 = .ok (.invokevirtual 47, 3) := by decide +kernel
theorem dL_law_414 : decode cL_law 414 = .ok (.aload_n 2, 1) := by decide +kernel
theorem dL_law_415 : decode cL_law 415 = .ok (.aload_n 0, 1) := by decide +kernel
theorem dL_law_416 : decode cL_law 416 = .ok (.iload 4, 2) := by decide +kernel
theorem dL_law_418 : decode cL_law 418 = .ok (.iconst 1, 1) := by decide +kernel
theorem dL_law_419 : decode cL_law 419 = .ok (.iadd, 1) := by decide +kernel
theorem dL_law_420 : decode cL_law 420 = .ok (.iaload, 1) := by decide +kernel
theorem dL_law_421 : decode cL_law 421 = .ok (.aload_n 0, 1) := by decide +kernel
theorem dL_law_422 : decode cL_law 422 = .ok (.iload 4, 2) := by decide +kernel
theorem dL_law_424 : decode cL_law 424 = .ok (.iconst 2, 1) := by decide +kernel
theorem dL_law_425 : decode cL_law 425 = .ok (.iadd, 1) := by decide +kernel
theorem dL_law_426 : decode cL_law 426 = .ok (.iaload, 1) := by decide +kernel
theorem dL_law_427 : decode cL_law 427 = .ok (.invokevirtual 50, 3) := by decide +kernel
theorem dL_law_430 : decode cL_law 430 = .ok (.if_icmp .eq 817, 3) := by decide +kernel
theorem dL_law_433 : decode cL_law 433 = .ok (.iconst 0, 1) := by decide +kernel
theorem dL_law_434 : decode cL_law 434 = .ok (.ireturn, 1) := by decide +kernel
theorem dL_law_435 : decode cL_law 435 = .ok (.aload_n 1, 1) := by decide +kernel
theorem dL_law_436 : decode cL_law 436 = .ok (.invokevirtual 51, 3) := by decide +kernel
theorem dL_law_439 : decode cL_law 439 = .ok (.aload_n 2, 1) := by decide +kernel
theorem dL_law_440 : decode cL_law 440 = .ok (.invokevirtual 55, 3) := by decide +kernel
theorem dL_law_443 : decode cL_law 443 = .ok (.if_icmp .eq 804, 3) := by decide +kernel
theorem dL_law_446 : decode cL_law 446 = .ok (.iconst 0, 1) := by decide +kernel
theorem dL_law_447 : decode cL_law 447 = .ok (.ireturn, 1) := by decide +kernel
theorem dL_law_448 : decode cL_law 448 = .ok (.aload_n 1, 1) := by decide +kernel
theorem dL_law_449 : decode cL_law 449 = .ok (.invokevirtual 56, 3) := by decide +kernel
theorem dL_law_452 : decode cL_law 452 = .ok (.aload_n 2, 1) := by decide +kernel
theorem dL_law_453 : decode cL_law 453 = .ok (.invokevirtual 59, 3) := by decide +kernel
theorem dL_law_456 : decode cL_law 456 = .ok (.if_icmp .eq 791, 3) := by decide +kernel
theorem dL_law_459 : decode cL_law 459 = .ok (.iconst 0, 1) := by decide +kernel
theorem dL_law_460 : decode cL_law 460 = .ok (.ireturn, 1) := by decide +kernel
theorem dL_law_461 : decode cL_law 461 = .ok (.aload_n 1, 1) := by decide +kernel
theorem dL_law_462 : decode cL_law 462 = .ok (.aload_n 0, 1) := by decide +kernel
theorem dL_law_463 : decode cL_law 463 = .ok (.iload 4, 2) := by decide +kernel
theorem dL_law_465 : decode cL_law 465 = .ok (.iconst 1, 1) := by decide +kernel
theorem dL_law_466 : decode cL_law 466 = .ok (.iadd, 1) := by decide +kernel
theorem dL_law_467 : decode cL_law 467 = .ok (.iaload, 1) := by decide +kernel
theorem dL_law_468 : decode cL_law 468 = .ok (.aload_n 0, 1) := by decide +kernel
theorem dL_law_469 : decode cL_law 469 = .ok (.iload 4, 2) := by decide +kernel
theorem dL_law_471 : decode cL_law 471 = .ok (.iconst 2, 1) := by decide +kernel
theorem dL_law_472 : decode cL_law 472 = .ok (.iadd, 1) := by decide +kernel
theorem dL_law_473 : decode cL_law 473 = .ok (.iaload, 1) := by decide +kernel
theorem dL_law_474 : decode cL_law 474 = .ok (.invokevirtual 60, 3) := by decide +kernel
theorem dL_law_477 : decode cL_law 477 = .ok (.aload_n 2, 1) := by decide +kernel
theorem dL_law_478 : decode cL_law 478 = .ok (.aload_n 0, 1) := by decide +kernel
theorem dL_law_479 : decode cL_law 479 = .ok (.iload 4, 2) := by decide +kernel
theorem dL_law_481 : decode cL_law 481 = .ok (.iconst 1, 1) := by decide +kernel
theorem dL_law_482 : decode cL_law 482 = .ok (.iadd, 1) := by decide +kernel
theorem dL_law_483 : decode cL_law 483 = .ok (.iaload, 1) := by decide +kernel
theorem dL_law_484 : decode cL_law 484 = .ok (.aload_n 0, 1) := by decide +kernel
theorem dL_law_485 : decode cL_law 485 = .ok (.iload 4, 2) := by decide +kernel
theorem dL_law_487 : decode cL_law 487 = .ok (.iconst 2, 1) := by decide +kernel
theorem dL_law_488 : decode cL_law 488 = .ok (.iadd, 1) := by decide +kernel
theorem dL_law_489 : decode cL_law 489 = .ok (.iaload, 1) := by decide +kernel
theorem dL_law_490 : decode cL_law 490 = .ok (.invokevirtual 63, 3) := by decide +kernel
theorem dL_law_493 : decode cL_law 493 = .ok (.if_icmp .eq 754, 3) := by decide +kernel
theorem dL_law_496 : decode cL_law 496 = .ok (.iconst 0, 1) := by decide +kernel
theorem dL_law_497 : decode cL_law 497 = .ok (.ireturn, 1) := by decide +kernel
theorem dL_law_498 : decode cL_law 498 = .ok (.aload_n 1, 1) := by decide +kernel
theorem dL_law_499 : decode cL_law 499 = .ok (.aload_n 0, 1) := by decide +kernel
theorem dL_law_500 : decode cL_law 500 = .ok (.iload 4, 2) := by decide +kernel
theorem dL_law_502 : decode cL_law 502 = .ok (.iconst 1, 1) := by decide +kernel
theorem dL_law_503 : decode cL_law 503 = .ok (.iadd, 1) := by decide +kernel
theorem dL_law_504 : decode cL_law 504 = .ok (.iaload, 1) := by decide +kernel
theorem dL_law_505 : decode cL_law 505 = .ok (.invokevirtual 64, 3) := by decide +kernel
theorem dL_law_508 : decode cL_law 508 = .ok (.aload_n 2, 1) := by decide +kernel
theorem dL_law_509 : decode cL_law 509 = .ok (.aload_n 0, 1) := by decide +kernel
theorem dL_law_510 : decode cL_law 510 = .ok (.iload 4, 2) := by decide +kernel
theorem dL_law_512 : decode cL_law 512 = .ok (.iconst 1, 1) := by decide +kernel
theorem dL_law_513 : decode cL_law 513 = .ok (.iadd, 1) := by decide +kernel
theorem dL_law_514 : decode cL_law 514 = .ok (.iaload, 1) := by decide +kernel
theorem dL_law_515 : decode cL_law 515 = .ok (.invokevirtual 67, 3) := by decide +kernel
theorem dL_law_518 : decode cL_law 518 = .ok (.if_icmp .eq 729, 3) := by decide +kernel
theorem dL_law_521 : decode cL_law 521 = .ok (.iconst 0, 1) := by decide +kernel
theorem dL_law_522 : decode cL_law 522 = .ok (.ireturn, 1) := by decide +kernel
theorem dL_law_523 : decode cL_law 523 = .ok (.aload_n 1, 1) := by decide +kernel
theorem dL_law_524 : decode cL_law 524 = .ok (.aload_n 0, 1) := by decide +kernel
theorem dL_law_525 : decode cL_law 525 = .ok (.iload 4, 2) := by decide +kernel
theorem dL_law_527 : decode cL_law 527 = .ok (.iconst 1, 1) := by decide +kernel
theorem dL_law_528 : decode cL_law 528 = .ok (.iadd, 1) := by decide +kernel
theorem dL_law_529 : decode cL_law 529 = .ok (.iaload, 1) := by decide +kernel
theorem dL_law_530 : decode cL_law 530 = .ok (.invokevirtual 68, 3) := by decide +kernel
theorem dL_law_533 : decode cL_law 533 = .ok (.aload_n 2, 1) := by decide +kernel
theorem dL_law_534 : decode cL_law 534 = .ok (.aload_n 0, 1) := by decide +kernel
theorem dL_law_535 : decode cL_law 535 = .ok (.iload 4, 2) := by decide +kernel
theorem dL_law_537 : decode cL_law 537 = .ok (.iconst 1, 1) := by decide +kernel
theorem dL_law_538 : decode cL_law 538 = .ok (.iadd, 1) := by decide +kernel
theorem dL_law_539 : decode cL_law 539 = .ok (.iaload, 1) := by decide +kernel
theorem dL_law_540 : decode cL_law 540 = .ok (.invokevirtual 71, 3) := by decide +kernel
theorem dL_law_543 : decode cL_law 543 = .ok (.if_icmp .eq 704, 3) := by decide +kernel
theorem dL_law_546 : decode cL_law 546 = .ok (.iconst 0, 1) := by decide +kernel
theorem dL_law_547 : decode cL_law 547 = .ok (.ireturn, 1) := by decide +kernel
theorem dL_law_548 : decode cL_law 548 = .ok (.aload_n 1, 1) := by decide +kernel
theorem dL_law_549 : decode cL_law 549 = .ok (.aload_n 0, 1) := by decide +kernel
theorem dL_law_550 : decode cL_law 550 = .ok (.iload 4, 2) := by decide +kernel
theorem dL_law_552 : decode cL_law 552 = .ok (.iconst 1, 1) := by decide +kernel
theorem dL_law_553 : decode cL_law 553 = .ok (.iadd, 1) := by decide +kernel
theorem dL_law_554 : decode cL_law 554 = .ok (.iaload, 1) := by decide +kernel
theorem dL_law_555 : decode cL_law 555 = .ok (.invokevirtual 72, 3) := by decide +kernel
theorem dL_law_558 : decode cL_law 558 = .ok (.aload_n 2, 1) := by decide +kernel
theorem dL_law_559 : decode cL_law 559 = .ok (.aload_n 0, 1) := by decide +kernel
theorem dL_law_560 : decode cL_law 560 = .ok (.iload 4, 2) := by decide +kernel
theorem dL_law_562 : decode cL_law 562 = .ok (.iconst 1, 1) := by decide +kernel
theorem dL_law_563 : decode cL_law 563 = .ok (.iadd, 1) := by decide +kernel
theorem dL_law_564 : decode cL_law 564 = .ok (.iaload, 1) := by decide +kernel
theorem dL_law_565 : decode cL_law 565 = .ok (.invokevirtual 75, 3) := by decide +kernel
theorem dL_law_568 : decode cL_law 568 = .ok (.if_icmp .eq 679, 3) := by decide +kernel
theorem dL_law_571 : decode cL_law 571 = .ok (.iconst 0, 1) := by decide +kernel
theorem dL_law_572 : decode cL_law 572 = .ok (.ireturn, 1) := by decide +kernel
theorem dL_law_573 : decode cL_law 573 = .ok (.aload_n 1, 1) := by decide +kernel
theorem dL_law_574 : decode cL_law 574 = .ok (.aload_n 0, 1) := by decide +kernel
theorem dL_law_575 : decode cL_law 575 = .ok (.iload 4, 2) := by decide +kernel
theorem dL_law_577 : decode cL_law 577 = .ok (.iconst 1, 1) := by decide +kernel
theorem dL_law_578 : decode cL_law 578 = .ok (.iadd, 1) := by decide +kernel
theorem dL_law_579 : decode cL_law 579 = .ok (.iaload, 1) := by decide +kernel
theorem dL_law_580 : decode cL_law 580 = .ok (.aload_n 0, 1) := by decide +kernel
theorem dL_law_581 : decode cL_law 581 = .ok (.iload 4, 2) := by decide +kernel
theorem dL_law_583 : decode cL_law 583 = .ok (.iconst 2, 1) := by decide +kernel
theorem dL_law_584 : decode cL_law 584 = .ok (.iadd, 1) := by decide +kernel
theorem dL_law_585 : decode cL_law 585 = .ok (.iaload, 1) := by decide +kernel
theorem dL_law_586 : decode cL_law 586 = .ok (.invokevirtual 76, 3) := by decide +kernel
theorem dL_law_589 : decode cL_law 589 = .ok (.aload_n 2, 1) := by decide +kernel
theorem dL_law_590 : decode cL_law 590 = .ok (.aload_n 0, 1) := by decide +kernel
theorem dL_law_591 : decode cL_law 591 = .ok (.iload 4, 2) := by decide +kernel
theorem dL_law_593 : decode cL_law 593 = .ok (.iconst 1, 1) := by decide +kernel
theorem dL_law_594 : decode cL_law 594 = .ok (.iadd, 1) := by decide +kernel
theorem dL_law_595 : decode cL_law 595 = .ok (.iaload, 1) := by decide +kernel
theorem dL_law_596 : decode cL_law 596 = .ok (.aload_n 0, 1) := by decide +kernel
theorem dL_law_597 : decode cL_law 597 = .ok (.iload 4, 2) := by decide +kernel
theorem dL_law_599 : decode cL_law 599 = .ok (.iconst 2, 1) := by decide +kernel
theorem dL_law_600 : decode cL_law 600 = .ok (.iadd, 1) := by decide +kernel
theorem dL_law_601 : decode cL_law 601 = .ok (.iaload, 1) := by decide +kernel
theorem dL_law_602 : decode cL_law 602 = .ok (.invokevirtual 79, 3) := by decide +kernel
theorem dL_law_605 : decode cL_law 605 = .ok (.if_icmp .eq 642, 3) := by decide +kernel
theorem dL_law_608 : decode cL_law 608 = .ok (.iconst 0, 1) := by decide +kernel
theorem dL_law_609 : decode cL_law 609 = .ok (.ireturn, 1) := by decide +kernel
theorem dL_law_610 : decode cL_law 610 = .ok (.aload_n 1, 1) := by decide +kernel
theorem dL_law_611 : decode cL_law 611 = .ok (.aload_n 0, 1) := by decide +kernel
theorem dL_law_612 : decode cL_law 612 = .ok (.iload 4, 2) := by decide +kernel
theorem dL_law_614 : decode cL_law 614 = .ok (.iconst 1, 1) := by decide +kernel
theorem dL_law_615 : decode cL_law 615 = .ok (.iadd, 1) := by decide +kernel
theorem dL_law_616 : decode cL_law 616 = .ok (.iaload, 1) := by decide +kernel
theorem dL_law_617 : decode cL_law 617 = .ok (.invokevirtual 80, 3) := by decide +kernel
theorem dL_law_620 : decode cL_law 620 = .ok (.aload_n 2, 1) := by decide +kernel
theorem dL_law_621 : decode cL_law 621 = .ok (.aload_n 0, 1) := by decide +kernel
theorem dL_law_622 : decode cL_law 622 = .ok (.iload 4, 2) := by decide +kernel
theorem dL_law_624 : decode cL_law 624 = .ok (.iconst 1, 1) := by decide +kernel
theorem dL_law_625 : decode cL_law 625 = .ok (.iadd, 1) := by decide +kernel
theorem dL_law_626 : decode cL_law 626 = .ok (.iaload, 1) := by decide +kernel
theorem dL_law_627 : decode cL_law 627 = .ok (.invokevirtual 83, 3) := by decide +kernel
theorem dL_law_630 : decode cL_law 630 = .ok (.if_icmp .eq 617, 3) := by decide +kernel
theorem dL_law_633 : decode cL_law 633 = .ok (.iconst 0, 1) := by decide +kernel
theorem dL_law_634 : decode cL_law 634 = .ok (.ireturn, 1) := by decide +kernel
theorem dL_law_635 : decode cL_law 635 = .ok (.aload_n 1, 1) := by decide +kernel
theorem dL_law_636 : decode cL_law 636 = .ok (.aload_n 0, 1) := by decide +kernel
theorem dL_law_637 : decode cL_law 637 = .ok (.iload 4, 2) := by decide +kernel
theorem dL_law_639 : decode cL_law 639 = .ok (.iconst 1, 1) := by decide +kernel
theorem dL_law_640 : decode cL_law 640 = .ok (.iadd, 1) := by decide +kernel
theorem dL_law_641 : decode cL_law 641 = .ok (.iaload, 1) := by decide +kernel
theorem dL_law_642 : decode cL_law 642 = .ok (.invokevirtual 84, 3) := by decide +kernel
theorem dL_law_645 : decode cL_law 645 = .ok (.aload_n 2, 1) := by decide +kernel
theorem dL_law_646 : decode cL_law 646 = .ok (.aload_n 0, 1) := by decide +kernel
theorem dL_law_647 : decode cL_law 647 = .ok (.iload 4, 2) := by decide +kernel
theorem dL_law_649 : decode cL_law 649 = .ok (.iconst 1, 1) := by decide +kernel
theorem dL_law_650 : decode cL_law 650 = .ok (.iadd, 1) := by decide +kernel
theorem dL_law_651 : decode cL_law 651 = .ok (.iaload, 1) := by decide +kernel
theorem dL_law_652 : decode cL_law 652 = .ok (.invokevirtual 87, 3) := by decide +kernel
theorem dL_law_655 : decode cL_law 655 = .ok (.if_icmp .eq 592, 3) := by decide +kernel
theorem dL_law_658 : decode cL_law 658 = .ok (.iconst 0, 1) := by decide +kernel
theorem dL_law_659 : decode cL_law 659 = .ok (.ireturn, 1) := by decide +kernel
theorem dL_law_660 : decode cL_law 660 = .ok (.aload_n 1, 1) := by decide +kernel
theorem dL_law_661 : decode cL_law 661 = .ok (.aload_n 0, 1) := by decide +kernel
theorem dL_law_662 : decode cL_law 662 = .ok (.iload 4, 2) := by decide +kernel
theorem dL_law_664 : decode cL_law 664 = .ok (.iconst 1, 1) := by decide +kernel
theorem dL_law_665 : decode cL_law 665 = .ok (.iadd, 1) := by decide +kernel
theorem dL_law_666 : decode cL_law 666 = .ok (.iaload, 1) := by decide +kernel
theorem dL_law_667 : decode cL_law 667 = .ok (.invokevirtual 88, 3) := by decide +kernel
theorem dL_law_670 : decode cL_law 670 = .ok (.aload_n 2, 1) := by decide +kernel
theorem dL_law_671 : decode cL_law 671 = .ok (.aload_n 0, 1) := by decide +kernel
theorem dL_law_672 : decode cL_law 672 = .ok (.iload 4, 2) := by decide +kernel
theorem dL_law_674 : decode cL_law 674 = .ok (.iconst 1, 1) := by decide +kernel
theorem dL_law_675 : decode cL_law 675 = .ok (.iadd, 1) := by decide +kernel
theorem dL_law_676 : decode cL_law 676 = .ok (.iaload, 1) := by decide +kernel
theorem dL_law_677 : decode cL_law 677 = .ok (.invokevirtual 91, 3) := by decide +kernel
theorem dL_law_680 : decode cL_law 680 = .ok (.if_icmp .eq 567, 3) := by decide +kernel
theorem dL_law_683 : decode cL_law 683 = .ok (.iconst 0, 1) := by decide +kernel
theorem dL_law_684 : decode cL_law 684 = .ok (.ireturn, 1) := by decide +kernel
theorem dL_law_685 : decode cL_law 685 = .ok (.aload_n 1, 1) := by decide +kernel
theorem dL_law_686 : decode cL_law 686 = .ok (.aload_n 0, 1) := by decide +kernel
theorem dL_law_687 : decode cL_law 687 = .ok (.iload 4, 2) := by decide +kernel
theorem dL_law_689 : decode cL_law 689 = .ok (.iconst 1, 1) := by decide +kernel
theorem dL_law_690 : decode cL_law 690 = .ok (.iadd, 1) := by decide +kernel
theorem dL_law_691 : decode cL_law 691 = .ok (.iaload, 1) := by decide +kernel
theorem dL_law_692 : decode cL_law 692 = .ok (.aload_n 0, 1) := by decide +kernel
theorem dL_law_693 : decode cL_law 693 = .ok (.iload 4, 2) := by decide +kernel
theorem dL_law_695 : decode cL_law 695 = .ok (.iconst 2, 1) := by decide +kernel
theorem dL_law_696 : decode cL_law 696 = .ok (.iadd, 1) := by decide +kernel
theorem dL_law_697 : decode cL_law 697 = .ok (.iaload, 1) := by decide +kernel
theorem dL_law_698 : decode cL_law 698 = .ok (.invokevirtual 92, 3) := by decide +kernel
theorem dL_law_701 : decode cL_law 701 = .ok (.aload_n 2, 1) := by decide +kernel
theorem dL_law_702 : decode cL_law 702 = .ok (.aload_n 0, 1) := by decide +kernel
theorem dL_law_703 : decode cL_law 703 = .ok (.iload 4, 2) := by decide +kernel
theorem dL_law_705 : decode cL_law 705 = .ok (.iconst 1, 1) := by decide +kernel
theorem dL_law_706 : decode cL_law 706 = .ok (.iadd, 1) := by decide +kernel
theorem dL_law_707 : decode cL_law 707 = .ok (.iaload, 1) := by decide +kernel
theorem dL_law_708 : decode cL_law 708 = .ok (.aload_n 0, 1) := by decide +kernel
theorem dL_law_709 : decode cL_law 709 = .ok (.iload 4, 2) := by decide +kernel
theorem dL_law_711 : decode cL_law 711 = .ok (.iconst 2, 1) := by decide +kernel
theorem dL_law_712 : decode cL_law 712 = .ok (.iadd, 1) := by decide +kernel
theorem dL_law_713 : decode cL_law 713 = .ok (.iaload, 1) := by decide +kernel
theorem dL_law_714 : decode cL_law 714 = .ok (.invokevirtual 95, 3) := by decide +kernel
theorem dL_law_717 : decode cL_law 717 = .ok (.if_icmp .eq 530, 3) := by decide +kernel
theorem dL_law_720 : decode cL_law 720 = .ok (.iconst 0, 1) := by decide +kernel
theorem dL_law_721 : decode cL_law 721 = .ok (.ireturn, 1) := by decide +kernel
theorem dL_law_722 : decode cL_law 722 = .ok (.aload_n 1, 1) := by decide +kernel
theorem dL_law_723 : decode cL_law 723 = .ok (.invokevirtual 96, 3) := by decide +kernel
theorem dL_law_726 : decode cL_law 726 = .ok (.aload_n 2, 1) := by decide +kernel
theorem dL_law_727 : decode cL_law 727 = .ok (.invokevirtual 99, 3) := by decide +kernel
theorem dL_law_730 : decode cL_law 730 = .ok (.if_icmp .eq 517, 3) := by decide +kernel
theorem dL_law_733 : decode cL_law 733 = .ok (.iconst 0, 1) := by decide +kernel
theorem dL_law_734 : decode cL_law 734 = .ok (.ireturn, 1) := by decide +kernel
theorem dL_law_735 : decode cL_law 735 = .ok (.aload_n 1, 1) := by decide +kernel
theorem dL_law_736 : decode cL_law 736 = .ok (.aload_n 0, 1) := by decide +kernel
theorem dL_law_737 : decode cL_law 737 = .ok (.iload 4, 2) := by decide +kernel
theorem dL_law_739 : decode cL_law 739 = .ok (.iconst 1, 1) := by decide +kernel
theorem dL_law_740 : decode cL_law 740 = .ok (.iadd, 1) := by decide +kernel
theorem dL_law_741 : decode cL_law 741 = .ok (.iaload, 1) := by decide +kernel
theorem dL_law_742 : decode cL_law 742 = .ok (.invokevirtual 100, 3) := by decide +kernel
theorem dL_law_745 : decode cL_law 745 = .ok (.aload_n 2, 1) := by decide +kernel
theorem dL_law_746 : decode cL_law 746 = .ok (.aload_n 0, 1) := by decide +kernel
theorem dL_law_747 : decode cL_law 747 = .ok (.iload 4, 2) := by decide +kernel
theorem dL_law_749 : decode cL_law 749 = .ok (.iconst 1, 1) := by decide +kernel
theorem dL_law_750 : decode cL_law 750 = .ok (.iadd, 1) := by decide +kernel
theorem dL_law_751 : decode cL_law 751 = .ok (.iaload, 1) := by decide +kernel
theorem dL_law_752 : decode cL_law 752 = .ok (.invokevirtual 103, 3) := by decide +kernel
theorem dL_law_755 : decode cL_law 755 = .ok (.if_icmp .eq 492, 3) := by decide +kernel
theorem dL_law_758 : decode cL_law 758 = .ok (.iconst 0, 1) := by decide +kernel
theorem dL_law_759 : decode cL_law 759 = .ok (.ireturn, 1) := by decide +kernel
theorem dL_law_760 : decode cL_law 760 = .ok (.aload_n 1, 1) := by decide +kernel
theorem dL_law_761 : decode cL_law 761 = .ok (.invokevirtual 104, 3) := by decide +kernel
theorem dL_law_764 : decode cL_law 764 = .ok (.aload_n 2, 1) := by decide +kernel
theorem dL_law_765 : decode cL_law 765 = .ok (.invokevirtual 107, 3) := by decide +kernel
theorem dL_law_768 : decode cL_law 768 = .ok (.if_icmp .eq 479, 3) := by decide +kernel
theorem dL_law_771 : decode cL_law 771 = .ok (.iconst 0, 1) := by decide +kernel
theorem dL_law_772 : decode cL_law 772 = .ok (.ireturn, 1) := by decide +kernel
theorem dL_law_773 : decode cL_law 773 = .ok (.aload_n 1, 1) := by decide +kernel
theorem dL_law_774 : decode cL_law 774 = .ok (.aload_n 0, 1) := by decide +kernel
theorem dL_law_775 : decode cL_law 775 = .ok (.iload 4, 2) := by decide +kernel
theorem dL_law_777 : decode cL_law 777 = .ok (.iconst 1, 1) := by decide +kernel
theorem dL_law_778 : decode cL_law 778 = .ok (.iadd, 1) := by decide +kernel
theorem dL_law_779 : decode cL_law 779 = .ok (.iaload, 1) := by decide +kernel
theorem dL_law_780 : decode cL_law 780 = .ok (.aload_n 0, 1) := by decide +kernel
theorem dL_law_781 : decode cL_law 781 = .ok (.iload 4, 2) := by decide +kernel
theorem dL_law_783 : decode cL_law 783 = .ok (.iconst 2, 1) := by decide +kernel
theorem dL_law_784 : decode cL_law 784 = .ok (.iadd, 1) := by decide +kernel
theorem dL_law_785 : decode cL_law 785 = .ok (.iaload, 1) := by decide +kernel
theorem dL_law_786 : decode cL_law 786 = .ok (.invokevirtual 108, 3) := by decide +kernel
theorem dL_law_789 : decode cL_law 789 = .ok (.aload_n 2, 1) := by decide +kernel
theorem dL_law_790 : decode cL_law 790 = .ok (.aload_n 0, 1) := by decide +kernel
theorem dL_law_791 : decode cL_law 791 = .ok (.iload 4, 2) := by decide +kernel
theorem dL_law_793 : decode cL_law 793 = .ok (.iconst 1, 1) := by decide +kernel
theorem dL_law_794 : decode cL_law 794 = .ok (.iadd, 1) := by decide +kernel
theorem dL_law_795 : decode cL_law 795 = .ok (.iaload, 1) := by decide +kernel
theorem dL_law_796 : decode cL_law 796 = .ok (.aload_n 0, 1) := by decide +kernel
theorem dL_law_797 : decode cL_law 797 = .ok (.iload 4, 2) := by decide +kernel
theorem dL_law_799 : decode cL_law 799 = .ok (.iconst 2, 1) := by decide +kernel
theorem dL_law_800 : decode cL_law 800 = .ok (.iadd, 1) := by decide +kernel
theorem dL_law_801 : decode cL_law 801 = .ok (.iaload, 1) := by decide +kernel
theorem dL_law_802 : decode cL_law 802 = .ok (.invokevirtual 111, 3) := by decide +kernel
theorem dL_law_805 : decode cL_law 805 = .ok (.if_icmp .eq 442, 3) := by decide +kernel
theorem dL_law_808 : decode cL_law 808 = .ok (.iconst 0, 1) := by decide +kernel
theorem dL_law_809 : decode cL_law 809 = .ok (.ireturn, 1) := by decide +kernel
theorem dL_law_810 : decode cL_law 810 = .ok (.aload_n 1, 1) := by decide +kernel
theorem dL_law_811 : decode cL_law 811 = .ok (.aload_n 0, 1) := by decide +kernel
theorem dL_law_812 : decode cL_law 812 = .ok (.iload 4, 2) := by decide +kernel
theorem dL_law_814 : decode cL_law 814 = .ok (.iconst 1, 1) := by decide +kernel
theorem dL_law_815 : decode cL_law 815 = .ok (.iadd, 1) := by decide +kernel
theorem dL_law_816 : decode cL_law 816 = .ok (.iaload, 1) := by decide +kernel
theorem dL_law_817 : decode cL_law 817 = .ok (.aload_n 0, 1) := by decide +kernel
theorem dL_law_818 : decode cL_law 818 = .ok (.iload 4, 2) := by decide +kernel
theorem dL_law_820 : decode cL_law 820 = .ok (.iconst 2, 1) := by decide +kernel
theorem dL_law_821 : decode cL_law 821 = .ok (.iadd, 1) := by decide +kernel
theorem dL_law_822 : decode cL_law 822 = .ok (.iaload, 1) := by decide +kernel
theorem dL_law_823 : decode cL_law 823 = .ok (.invokevirtual 112, 3) := by decide +kernel
theorem dL_law_826 : decode cL_law 826 = .ok (.aload_n 2, 1) := by decide +kernel
theorem dL_law_827 : decode cL_law 827 = .ok (.aload_n 0, 1) := by decide +kernel
theorem dL_law_828 : decode cL_law 828 = .ok (.iload 4, 2) := by decide +kernel
theorem dL_law_830 : decode cL_law 830 = .ok (.iconst 1, 1) := by decide +kernel
theorem dL_law_831 : decode cL_law 831 = .ok (.iadd, 1) := by decide +kernel
theorem dL_law_832 : decode cL_law 832 = .ok (.iaload, 1) := by decide +kernel
theorem dL_law_833 : decode cL_law 833 = .ok (.aload_n 0, 1) := by decide +kernel
theorem dL_law_834 : decode cL_law 834 = .ok (.iload 4, 2) := by decide +kernel
theorem dL_law_836 : decode cL_law 836 = .ok (.iconst 2, 1) := by decide +kernel
theorem dL_law_837 : decode cL_law 837 = .ok (.iadd, 1) := by decide +kernel
theorem dL_law_838 : decode cL_law 838 = .ok (.iaload, 1) := by decide +kernel
theorem dL_law_839 : decode cL_law 839 = .ok (.invokevirtual 115, 3) := by decide +kernel
theorem dL_law_842 : decode cL_law 842 = .ok (.if_icmp .eq 405, 3) := by decide +kernel
theorem dL_law_845 : decode cL_law 845 = .ok (.iconst 0, 1) := by decide +kernel
theorem dL_law_846 : decode cL_law 846 = .ok (.ireturn, 1) := by decide +kernel
theorem dL_law_847 : decode cL_law 847 = .ok (.aload_n 1, 1) := by decide +kernel
theorem dL_law_848 : decode cL_law 848 = .ok (.invokevirtual 116, 3) := by decide +kernel
theorem dL_law_851 : decode cL_law 851 = .ok (.aload_n 2, 1) := by decide +kernel
theorem dL_law_852 : decode cL_law 852 = .ok (.invokevirtual 119, 3) := by decide +kernel
theorem dL_law_855 : decode cL_law 855 = .ok (.if_icmp .eq 392, 3) := by decide +kernel
theorem dL_law_858 : decode cL_law 858 = .ok (.iconst 0, 1) := by decide +kernel
theorem dL_law_859 : decode cL_law 859 = .ok (.ireturn, 1) := by decide +kernel
theorem dL_law_860 : decode cL_law 860 = .ok (.aload_n 1, 1) := by decide +kernel
theorem dL_law_861 : decode cL_law 861 = .ok (.invokevirtual 120, 3) := by decide +kernel
theorem dL_law_864 : decode cL_law 864 = .ok (.aload_n 2, 1) := by decide +kernel
theorem dL_law_865 : decode cL_law 865 = .ok (.invokevirtual 123, 3) := by decide +kernel
theorem dL_law_868 : decode cL_law 868 = .ok (.if_icmp .eq 379, 3) := by decide +kernel
theorem dL_law_871 : decode cL_law 871 = .ok (.iconst 0, 1) := by decide +kernel
theorem dL_law_872 : decode cL_law 872 = .ok (.ireturn, 1) := by decide +kernel
theorem dL_law_873 : decode cL_law 873 = .ok (.aload_n 1, 1) := by decide +kernel
theorem dL_law_874 : decode cL_law 874 = .ok (.aload_n 0, 1) := by decide +kernel
theorem dL_law_875 : decode cL_law 875 = .ok (.iload 4, 2) := by decide +kernel
theorem dL_law_877 : decode cL_law 877 = .ok (.iconst 1, 1) := by decide +kernel
theorem dL_law_878 : decode cL_law 878 = .ok (.iadd, 1) := by decide +kernel
theorem dL_law_879 : decode cL_law 879 = .ok (.iaload, 1) := by decide +kernel
theorem dL_law_880 : decode cL_law 880 = .ok (.invokevirtual 124, 3) := by decide +kernel
theorem dL_law_883 : decode cL_law 883 = .ok (.aload_n 2, 1) := by decide +kernel
theorem dL_law_884 : decode cL_law 884 = .ok (.aload_n 0, 1) := by decide +kernel
theorem dL_law_885 : decode cL_law 885 = .ok (.iload 4, 2) := by decide +kernel
theorem dL_law_887 : decode cL_law 887 = .ok (.iconst 1, 1) := by decide +kernel
theorem dL_law_888 : decode cL_law 888 = .ok (.iadd, 1) := by decide +kernel
theorem dL_law_889 : decode cL_law 889 = .ok (.iaload, 1) := by decide +kernel
theorem dL_law_890 : decode cL_law 890 = .ok (.invokevirtual 127, 3) := by decide +kernel
theorem dL_law_893 : decode cL_law 893 = .ok (.if_icmp .eq 354, 3) := by decide +kernel
theorem dL_law_896 : decode cL_law 896 = .ok (.iconst 0, 1) := by decide +kernel
theorem dL_law_897 : decode cL_law 897 = .ok (.ireturn, 1) := by decide +kernel
theorem dL_law_898 : decode cL_law 898 = .ok (.aload_n 1, 1) := by decide +kernel
theorem dL_law_899 : decode cL_law 899 = .ok (.aload_n 0, 1) := by decide +kernel
theorem dL_law_900 : decode cL_law 900 = .ok (.iload 4, 2) := by decide +kernel
theorem dL_law_902 : decode cL_law 902 = .ok (.iconst 1, 1) := by decide +kernel
theorem dL_law_903 : decode cL_law 903 = .ok (.iadd, 1) := by decide +kernel
theorem dL_law_904 : decode cL_law 904 = .ok (.iaload, 1) := by decide +kernel
theorem dL_law_905 : decode cL_law 905 = .ok (.aload_n 0, 1) := by decide +kernel
theorem dL_law_906 : decode cL_law 906 = .ok (.iload 4, 2) := by decide +kernel
theorem dL_law_908 : decode cL_law 908 = .ok (.iconst 2, 1) := by decide +kernel
theorem dL_law_909 : decode cL_law 909 = .ok (.iadd, 1) := by decide +kernel
theorem dL_law_910 : decode cL_law 910 = .ok (.iaload, 1) := by decide +kernel
theorem dL_law_911 : decode cL_law 911 = .ok (.aload_n 0, 1) := by decide +kernel
theorem dL_law_912 : decode cL_law 912 = .ok (.iload 4, 2) := by decide +kernel
theorem dL_law_914 : decode cL_law 914 = .ok (.iconst 3, 1) := by decide +kernel
theorem dL_law_915 : decode cL_law 915 = .ok (.iadd, 1) := by decide +kernel
theorem dL_law_916 : decode cL_law 916 = .ok (.iaload, 1) := by decide +kernel
theorem dL_law_917 : decode cL_law 917 = .ok (.aload_n 0, 1) := by decide +kernel
theorem dL_law_918 : decode cL_law 918 = .ok (.iload 4, 2) := by decide +kernel
theorem dL_law_920 : decode cL_law 920 = .ok (.iconst 4, 1) := by decide +kernel
theorem dL_law_921 : decode cL_law 921 = .ok (.iadd, 1) := by decide +kernel
theorem dL_law_922 : decode cL_law 922 = .ok (.iaload, 1) := by decide +kernel
theorem dL_law_923 : decode cL_law 923 = .ok (.invokevirtual 128, 3) := by decide +kernel
theorem dL_law_926 : decode cL_law 926 = .ok (.aload_n 2, 1) := by decide +kernel
theorem dL_law_927 : decode cL_law 927 = .ok (.aload_n 0, 1) := by decide +kernel
theorem dL_law_928 : decode cL_law 928 = .ok (.iload 4, 2) := by decide +kernel
theorem dL_law_930 : decode cL_law 930 = .ok (.iconst 1, 1) := by decide +kernel
theorem dL_law_931 : decode cL_law 931 = .ok (.iadd, 1) := by decide +kernel
theorem dL_law_932 : decode cL_law 932 = .ok (.iaload, 1) := by decide +kernel
theorem dL_law_933 : decode cL_law 933 = .ok (.aload_n 0, 1) := by decide +kernel
theorem dL_law_934 : decode cL_law 934 = .ok (.iload 4, 2) := by decide +kernel
theorem dL_law_936 : decode cL_law 936 = .ok (.iconst 2, 1) := by decide +kernel
theorem dL_law_937 : decode cL_law 937 = .ok (.iadd, 1) := by decide +kernel
theorem dL_law_938 : decode cL_law 938 = .ok (.iaload, 1) := by decide +kernel
theorem dL_law_939 : decode cL_law 939 = .ok (.aload_n 0, 1) := by decide +kernel
theorem dL_law_940 : decode cL_law 940 = .ok (.iload 4, 2) := by decide +kernel
theorem dL_law_942 : decode cL_law 942 = .ok (.iconst 3, 1) := by decide +kernel
theorem dL_law_943 : decode cL_law 943 = .ok (.iadd, 1) := by decide +kernel
theorem dL_law_944 : decode cL_law 944 = .ok (.iaload, 1) := by decide +kernel
theorem dL_law_945 : decode cL_law 945 = .ok (.aload_n 0, 1) := by decide +kernel
theorem dL_law_946 : decode cL_law 946 = .ok (.iload 4, 2) := by decide +kernel
theorem dL_law_948 : decode cL_law 948 = .ok (.iconst 4, 1) := by decide +kernel
theorem dL_law_949 : decode cL_law 949 = .ok (.iadd, 1) := by decide +kernel
theorem dL_law_950 : decode cL_law 950 = .ok (.iaload, 1) := by decide +kernel
theorem dL_law_951 : decode cL_law 951 = .ok (.invokevirtual 132, 3) := by decide +kernel
theorem dL_law_954 : decode cL_law 954 = .ok (.if_icmp .eq 293, 3) := by decide +kernel
theorem dL_law_957 : decode cL_law 957 = .ok (.iconst 0, 1) := by decide +kernel
theorem dL_law_958 : decode cL_law 958 = .ok (.ireturn, 1) := by decide +kernel
theorem dL_law_959 : decode cL_law 959 = .ok (.aload_n 1, 1) := by decide +kernel
theorem dL_law_960 : decode cL_law 960 = .ok (.aload_n 0, 1) := by decide +kernel
theorem dL_law_961 : decode cL_law 961 = .ok (.iload 4, 2) := by decide +kernel
theorem dL_law_963 : decode cL_law 963 = .ok (.iconst 1, 1) := by decide +kernel
theorem dL_law_964 : decode cL_law 964 = .ok (.iadd, 1) := by decide +kernel
theorem dL_law_965 : decode cL_law 965 = .ok (.iaload, 1) := by decide +kernel
theorem dL_law_966 : decode cL_law 966 = .ok (.aload_n 0, 1) := by decide +kernel
theorem dL_law_967 : decode cL_law 967 = .ok (.iload 4, 2) := by decide +kernel
theorem dL_law_969 : decode cL_law 969 = .ok (.iconst 2, 1) := by decide +kernel
theorem dL_law_970 : decode cL_law 970 = .ok (.iadd, 1) := by decide +kernel
theorem dL_law_971 : decode cL_law 971 = .ok (.iaload, 1) := by decide +kernel
theorem dL_law_972 : decode cL_law 972 = .ok (.aload_n 0, 1) := by decide +kernel
theorem dL_law_973 : decode cL_law 973 = .ok (.iload 4, 2) := by decide +kernel
theorem dL_law_975 : decode cL_law 975 = .ok (.iconst 3, 1) := by decide +kernel
theorem dL_law_976 : decode cL_law 976 = .ok (.iadd, 1) := by decide +kernel
theorem dL_law_977 : decode cL_law 977 = .ok (.iaload, 1) := by decide +kernel
theorem dL_law_978 : decode cL_law 978 = .ok (.invokevirtual 133, 3) := by decide +kernel
theorem dL_law_981 : decode cL_law 981 = .ok (.aload_n 2, 1) := by decide +kernel
theorem dL_law_982 : decode cL_law 982 = .ok (.aload_n 0, 1) := by decide +kernel
theorem dL_law_983 : decode cL_law 983 = .ok (.iload 4, 2) := by decide +kernel
theorem dL_law_985 : decode cL_law 985 = .ok (.iconst 1, 1) := by decide +kernel
theorem dL_law_986 : decode cL_law 986 = .ok (.iadd, 1) := by decide +kernel
theorem dL_law_987 : decode cL_law 987 = .ok (.iaload, 1) := by decide +kernel
theorem dL_law_988 : decode cL_law 988 = .ok (.aload_n 0, 1) := by decide +kernel
theorem dL_law_989 : decode cL_law 989 = .ok (.iload 4, 2) := by decide +kernel
theorem dL_law_991 : decode cL_law 991 = .ok (.iconst 2, 1) := by decide +kernel
theorem dL_law_992 : decode cL_law 992 = .ok (.iadd, 1) := by decide +kernel
theorem dL_law_993 : decode cL_law 993 = .ok (.iaload, 1) := by decide +kernel
theorem dL_law_994 : decode cL_law 994 = .ok (.aload_n 0, 1) := by decide +kernel
theorem dL_law_995 : decode cL_law 995 = .ok (.iload 4, 2) := by decide +kernel
theorem dL_law_997 : decode cL_law 997 = .ok (.iconst 3, 1) := by decide +kernel
theorem dL_law_998 : decode cL_law 998 = .ok (.iadd, 1) := by decide +kernel
theorem dL_law_999 : decode cL_law 999 = .ok (.iaload, 1) := by decide +kernel
theorem dL_law_1000 : decode cL_law 1000 = .ok (.invokevirtual 137, 3) := by decide +kernel
theorem dL_law_1003 : decode cL_law 1003 = .ok (.if_icmp .eq 244, 3) := by decide +kernel
theorem dL_law_1006 : decode cL_law 1006 = .ok (.iconst 0, 1) := by decide +kernel
theorem dL_law_1007 : decode cL_law 1007 = .ok (.ireturn, 1) := by decide +kernel
theorem dL_law_1008 : decode cL_law 1008 = .ok (.aload_n 1, 1) := by decide +kernel
theorem dL_law_1009 : decode cL_law 1009 = .ok (.aload_n 0, 1) := by decide +kernel
theorem dL_law_1010 : decode cL_law 1010 = .ok (.iload 4, 2) := by decide +kernel
theorem dL_law_1012 : decode cL_law 1012 = .ok (.iconst 1, 1) := by decide +kernel
theorem dL_law_1013 : decode cL_law 1013 = .ok (.iadd, 1) := by decide +kernel
theorem dL_law_1014 : decode cL_law 1014 = .ok (.iaload, 1) := by decide +kernel
theorem dL_law_1015 : decode cL_law 1015 = .ok (.aload_n 0, 1) := by decide +kernel
theorem dL_law_1016 : decode cL_law 1016 = .ok (.iload 4, 2) := by decide +kernel
theorem dL_law_1018 : decode cL_law 1018 = .ok (.iconst 2, 1) := by decide +kernel
theorem dL_law_1019 : decode cL_law 1019 = .ok (.iadd, 1) := by decide +kernel
theorem dL_law_1020 : decode cL_law 1020 = .ok (.iaload, 1) := by decide +kernel
theorem dL_law_1021 : decode cL_law 1021 = .ok (.aload_n 0, 1) := by decide +kernel
theorem dL_law_1022 : decode cL_law 1022 = .ok (.iload 4, 2) := by decide +kernel
theorem dL_law_1024 : decode cL_law 1024 = .ok (.iconst 3, 1) := by decide +kernel
theorem dL_law_1025 : decode cL_law 1025 = .ok (.iadd, 1) := by decide +kernel
theorem dL_law_1026 : decode cL_law 1026 = .ok (.iaload, 1) := by decide +kernel
theorem dL_law_1027 : decode cL_law 1027 = .ok (.invokevirtual 138, 3) := by decide +kernel
theorem dL_law_1030 : decode cL_law 1030 = .ok (.aload_n 2, 1) := by decide +kernel
theorem dL_law_1031 : decode cL_law 1031 = .ok (.aload_n 0, 1) := by decide +kernel
theorem dL_law_1032 : decode cL_law 1032 = .ok (.iload 4, 2) := by decide +kernel
theorem dL_law_1034 : decode cL_law 1034 = .ok (.iconst 1, 1) := by decide +kernel
theorem dL_law_1035 : decode cL_law 1035 = .ok (.iadd, 1) := by decide +kernel
theorem dL_law_1036 : decode cL_law 1036 = .ok (.iaload, 1) := by decide +kernel
theorem dL_law_1037 : decode cL_law 1037 = .ok (.aload_n 0, 1) := by decide +kernel
theorem dL_law_1038 : decode cL_law 1038 = .ok (.iload 4, 2) := by decide +kernel
theorem dL_law_1040 : decode cL_law 1040 = .ok (.iconst 2, 1) := by decide +kernel
theorem dL_law_1041 : decode cL_law 1041 = .ok (.iadd, 1) := by decide +kernel
theorem dL_law_1042 : decode cL_law 1042 = .ok (.iaload, 1) := by decide +kernel
theorem dL_law_1043 : decode cL_law 1043 = .ok (.aload_n 0, 1) := by decide +kernel
theorem dL_law_1044 : decode cL_law 1044 = .ok (.iload 4, 2) := by decide +kernel
theorem dL_law_1046 : decode cL_law 1046 = .ok (.iconst 3, 1) := by decide +kernel
theorem dL_law_1047 : decode cL_law 1047 = .ok (.iadd, 1) := by decide +kernel
theorem dL_law_1048 : decode cL_law 1048 = .ok (.iaload, 1) := by decide +kernel
theorem dL_law_1049 : decode cL_law 1049 = .ok (.invokevirtual 141, 3) := by decide +kernel
theorem dL_law_1052 : decode cL_law 1052 = .ok (.if_icmp .eq 195, 3) := by decide +kernel
theorem dL_law_1055 : decode cL_law 1055 = .ok (.iconst 0, 1) := by decide +kernel
theorem dL_law_1056 : decode cL_law 1056 = .ok (.ireturn, 1) := by decide +kernel
theorem dL_law_1057 : decode cL_law 1057 = .ok (.aload_n 1, 1) := by decide +kernel
theorem dL_law_1058 : decode cL_law 1058 = .ok (.aload_n 0, 1) := by decide +kernel
theorem dL_law_1059 : decode cL_law 1059 = .ok (.iload 4, 2) := by decide +kernel
theorem dL_law_1061 : decode cL_law 1061 = .ok (.iconst 1, 1) := by decide +kernel
theorem dL_law_1062 : decode cL_law 1062 = .ok (.iadd, 1) := by decide +kernel
theorem dL_law_1063 : decode cL_law 1063 = .ok (.iaload, 1) := by decide +kernel
theorem dL_law_1064 : decode cL_law 1064 = .ok (.aload_n 0, 1) := by decide +kernel
theorem dL_law_1065 : decode cL_law 1065 = .ok (.iload 4, 2) := by decide +kernel
theorem dL_law_1067 : decode cL_law 1067 = .ok (.iconst 2, 1) := by decide +kernel
theorem dL_law_1068 : decode cL_law 1068 = .ok (.iadd, 1) := by decide +kernel
theorem dL_law_1069 : decode cL_law 1069 = .ok (.iaload, 1) := by decide +kernel
theorem dL_law_1070 : decode cL_law 1070 = .ok (.aload_n 3, 1) := by decide +kernel
theorem dL_law_1071 : decode cL_law 1071 = .ok (.invokestatic 142, 3) := by decide +kernel
theorem dL_law_1074 : decode cL_law 1074 = .ok (.istore 5, 2) := by decide +kernel
theorem dL_law_1076 : decode cL_law 1076 = .ok (.aload_n 2, 1) := by decide +kernel
theorem dL_law_1077 : decode cL_law 1077 = .ok (.aload_n 0, 1) := by decide +kernel
theorem dL_law_1078 : decode cL_law 1078 = .ok (.iload 4, 2) := by decide +kernel
theorem dL_law_1080 : decode cL_law 1080 = .ok (.iconst 1, 1) := by decide +kernel
theorem dL_law_1081 : decode cL_law 1081 = .ok (.iadd, 1) := by decide +kernel
theorem dL_law_1082 : decode cL_law 1082 = .ok (.iaload, 1) := by decide +kernel
theorem dL_law_1083 : decode cL_law 1083 = .ok (.aload_n 0, 1) := by decide +kernel
theorem dL_law_1084 : decode cL_law 1084 = .ok (.iload 4, 2) := by decide +kernel
theorem dL_law_1086 : decode cL_law 1086 = .ok (.iconst 2, 1) := by decide +kernel
theorem dL_law_1087 : decode cL_law 1087 = .ok (.iadd, 1) := by decide +kernel
theorem dL_law_1088 : decode cL_law 1088 = .ok (.iaload, 1) := by decide +kernel
theorem dL_law_1089 : decode cL_law 1089 = .ok (.invokevirtual 147, 3) := by decide +kernel
theorem dL_law_1092 : decode cL_law 1092 = .ok (.lstore 6, 2) := by decide +kernel
theorem dL_law_1094 : decode cL_law 1094 = .ok (.aload_n 2, 1) := by decide +kernel
theorem dL_law_1095 : decode cL_law 1095 = .ok (.invokevirtual 148, 3) := by decide +kernel
theorem dL_law_1098 : decode cL_law 1098 = .ok (.iload 5, 2) := by decide +kernel
theorem dL_law_1100 : decode cL_law 1100 = .ok (.if_icmp .eq 5, 3) := by decide +kernel
theorem dL_law_1103 : decode cL_law 1103 = .ok (.iconst 0, 1) := by decide +kernel
theorem dL_law_1104 : decode cL_law 1104 = .ok (.ireturn, 1) := by decide +kernel
theorem dL_law_1105 : decode cL_law 1105 = .ok (.iload 5, 2) := by decide +kernel
theorem dL_law_1107 : decode cL_law 1107 = .ok (.ifCond .ne 14, 3) := by decide +kernel
theorem dL_law_1110 : decode cL_law 1110 = .ok (.aload_n 3, 1) := by decide +kernel
theorem dL_law_1111 : decode cL_law 1111 = .ok (.iconst 0, 1) := by decide +kernel
theorem dL_law_1112 : decode cL_law 1112 = .ok (.laload, 1) := by decide +kernel
theorem dL_law_1113 : decode cL_law 1113 = .ok (.lload 6, 2) := by decide +kernel
theorem dL_law_1115 : decode cL_law 1115 = .ok (.lcmp, 1) := by decide +kernel
theorem dL_law_1116 : decode cL_law 1116 = .ok (.ifCond .eq 5, 3) := by decide +kernel
theorem dL_law_1119 : decode cL_law 1119 = .ok (.iconst 0, 1) := by decide +kernel
theorem dL_law_1120 : decode cL_law 1120 = .ok (.ireturn, 1) := by decide +kernel
theorem dL_law_1121 : decode cL_law 1121 = .ok (.goto 126, 3) := by decide +kernel
theorem dL_law_1124 : decode cL_law 1124 = .ok (.aload_n 1, 1) := by decide +kernel
theorem dL_law_1125 : decode cL_law 1125 = .ok (.aload_n 0, 1) := by decide +kernel
theorem dL_law_1126 : decode cL_law 1126 = .ok (.iload 4, 2) := by decide +kernel
theorem dL_law_1128 : decode cL_law 1128 = .ok (.iconst 1, 1) := by decide +kernel
theorem dL_law_1129 : decode cL_law 1129 = .ok (.iadd, 1) := by decide +kernel
theorem dL_law_1130 : decode cL_law 1130 = .ok (.iaload, 1) := by decide +kernel
theorem dL_law_1131 : decode cL_law 1131 = .ok (.aload_n 0, 1) := by decide +kernel
theorem dL_law_1132 : decode cL_law 1132 = .ok (.iload 4, 2) := by decide +kernel
theorem dL_law_1134 : decode cL_law 1134 = .ok (.iconst 2, 1) := by decide +kernel
theorem dL_law_1135 : decode cL_law 1135 = .ok (.iadd, 1) := by decide +kernel
theorem dL_law_1136 : decode cL_law 1136 = .ok (.iaload, 1) := by decide +kernel
theorem dL_law_1137 : decode cL_law 1137 = .ok (.aload_n 0, 1) := by decide +kernel
theorem dL_law_1138 : decode cL_law 1138 = .ok (.iload 4, 2) := by decide +kernel
theorem dL_law_1140 : decode cL_law 1140 = .ok (.iconst 3, 1) := by decide +kernel
theorem dL_law_1141 : decode cL_law 1141 = .ok (.iadd, 1) := by decide +kernel
theorem dL_law_1142 : decode cL_law 1142 = .ok (.iaload, 1) := by decide +kernel
theorem dL_law_1143 : decode cL_law 1143 = .ok (.aload_n 0, 1) := by decide +kernel
theorem dL_law_1144 : decode cL_law 1144 = .ok (.iload 4, 2) := by decide +kernel
theorem dL_law_1146 : decode cL_law 1146 = .ok (.iconst 4, 1) := by decide +kernel
theorem dL_law_1147 : decode cL_law 1147 = .ok (.iadd, 1) := by decide +kernel
theorem dL_law_1148 : decode cL_law 1148 = .ok (.iaload, 1) := by decide +kernel
theorem dL_law_1149 : decode cL_law 1149 = .ok (.aload_n 0, 1) := by decide +kernel
theorem dL_law_1150 : decode cL_law 1150 = .ok (.iload 4, 2) := by decide +kernel
theorem dL_law_1152 : decode cL_law 1152 = .ok (.iconst 5, 1) := by decide +kernel
theorem dL_law_1153 : decode cL_law 1153 = .ok (.iadd, 1) := by decide +kernel
theorem dL_law_1154 : decode cL_law 1154 = .ok (.iaload, 1) := by decide +kernel
theorem dL_law_1155 : decode cL_law 1155 = .ok (.invokevirtual 151, 3) := by decide +kernel
theorem dL_law_1158 : decode cL_law 1158 = .ok (.aload_n 2, 1) := by decide +kernel
theorem dL_law_1159 : decode cL_law 1159 = .ok (.aload_n 0, 1) := by decide +kernel
theorem dL_law_1160 : decode cL_law 1160 = .ok (.iload 4, 2) := by decide +kernel
theorem dL_law_1162 : decode cL_law 1162 = .ok (.iconst 1, 1) := by decide +kernel
theorem dL_law_1163 : decode cL_law 1163 = .ok (.iadd, 1) := by decide +kernel
theorem dL_law_1164 : decode cL_law 1164 = .ok (.iaload, 1) := by decide +kernel
theorem dL_law_1165 : decode cL_law 1165 = .ok (.aload_n 0, 1) := by decide +kernel
theorem dL_law_1166 : decode cL_law 1166 = .ok (.iload 4, 2) := by decide +kernel
theorem dL_law_1168 : decode cL_law 1168 = .ok (.iconst 2, 1) := by decide +kernel
theorem dL_law_1169 : decode cL_law 1169 = .ok (.iadd, 1) := by decide +kernel
theorem dL_law_1170 : decode cL_law 1170 = .ok (.iaload, 1) := by decide +kernel
theorem dL_law_1171 : decode cL_law 1171 = .ok (.aload_n 0, 1) := by decide +kernel
theorem dL_law_1172 : decode cL_law 1172 = .ok (.iload 4, 2) := by decide +kernel
theorem dL_law_1174 : decode cL_law 1174 = .ok (.iconst 3, 1) := by decide +kernel
theorem dL_law_1175 : decode cL_law 1175 = .ok (.iadd, 1) := by decide +kernel
theorem dL_law_1176 : decode cL_law 1176 = .ok (.iaload, 1) := by decide +kernel
theorem dL_law_1177 : decode cL_law 1177 = .ok (.aload_n 0, 1) := by decide +kernel
theorem dL_law_1178 : decode cL_law 1178 = .ok (.iload 4, 2) := by decide +kernel
theorem dL_law_1180 : decode cL_law 1180 = .ok (.iconst 4, 1) := by decide +kernel
theorem dL_law_1181 : decode cL_law 1181 = .ok (.iadd, 1) := by decide +kernel
theorem dL_law_1182 : decode cL_law 1182 = .ok (.iaload, 1) := by decide +kernel
theorem dL_law_1183 : decode cL_law 1183 = .ok (.aload_n 0, 1) := by decide +kernel
theorem dL_law_1184 : decode cL_law 1184 = .ok (.iload 4, 2) := by decide +kernel
theorem dL_law_1186 : decode cL_law 1186 = .ok (.iconst 5, 1) := by decide +kernel
theorem dL_law_1187 : decode cL_law 1187 = .ok (.iadd, 1) := by decide +kernel
theorem dL_law_1188 : decode cL_law 1188 = .ok (.iaload, 1) := by decide +kernel
theorem dL_law_1189 : decode cL_law 1189 = .ok (.invokevirtual 155, 3) := by decide +kernel
theorem dL_law_1192 : decode cL_law 1192 = .ok (.if_icmp .eq 55, 3) := by decide +kernel
theorem dL_law_1195 : decode cL_law 1195 = .ok (.iconst 0, 1) := by decide +kernel
theorem dL_law_1196 : decode cL_law 1196 = .ok (.ireturn, 1) := by decide +kernel
theorem dL_law_1197 : decode cL_law 1197 = .ok (.aload_n 1, 1) := by decide +kernel
theorem dL_law_1198 : decode cL_law 1198 = .ok (.aload_n 0, 1) := by decide +kernel
theorem dL_law_1199 : decode cL_law 1199 = .ok (.iload 4, 2) := by decide +kernel
theorem dL_law_1201 : decode cL_law 1201 = .ok (.iconst 1, 1) := by decide +kernel
theorem dL_law_1202 : decode cL_law 1202 = .ok (.iadd, 1) := by decide +kernel
theorem dL_law_1203 : decode cL_law 1203 = .ok (.iaload, 1) := by decide +kernel
theorem dL_law_1204 : decode cL_law 1204 = .ok (.invokevirtual 156, 3) := by decide +kernel
theorem dL_law_1207 : decode cL_law 1207 = .ok (.aload_n 2, 1) := by decide +kernel
theorem dL_law_1208 : decode cL_law 1208 = .ok (.aload_n 0, 1) := by decide +kernel
theorem dL_law_1209 : decode cL_law 1209 = .ok (.iload 4, 2) := by decide +kernel
theorem dL_law_1211 : decode cL_law 1211 = .ok (.iconst 1, 1) := by decide +kernel
theorem dL_law_1212 : decode cL_law 1212 = .ok (.iadd, 1) := by decide +kernel
theorem dL_law_1213 : decode cL_law 1213 = .ok (.iaload, 1) := by decide +kernel
theorem dL_law_1214 : decode cL_law 1214 = .ok (.invokevirtual 159, 3) := by decide +kernel
theorem dL_law_1217 : decode cL_law 1217 = .ok (.if_icmp .eq 30, 3) := by decide +kernel
theorem dL_law_1220 : decode cL_law 1220 = .ok (.iconst 0, 1) := by decide +kernel
theorem dL_law_1221 : decode cL_law 1221 = .ok (.ireturn, 1) := by decide +kernel
theorem dL_law_1222 : decode cL_law 1222 = .ok (.aload_n 1, 1) := by decide +kernel
theorem dL_law_1223 : decode cL_law 1223 = .ok (.aload_n 0, 1) := by decide +kernel
theorem dL_law_1224 : decode cL_law 1224 = .ok (.iload 4, 2) := by decide +kernel
theorem dL_law_1226 : decode cL_law 1226 = .ok (.iconst 1, 1) := by decide +kernel
theorem dL_law_1227 : decode cL_law 1227 = .ok (.iadd, 1) := by decide +kernel
theorem dL_law_1228 : decode cL_law 1228 = .ok (.iaload, 1) := by decide +kernel
theorem dL_law_1229 : decode cL_law 1229 = .ok (.invokevirtual 160, 3) := by decide +kernel
theorem dL_law_1232 : decode cL_law 1232 = .ok (.aload_n 2, 1) := by decide +kernel
theorem dL_law_1233 : decode cL_law 1233 = .ok (.aload_n 0, 1) := by decide +kernel
theorem dL_law_1234 : decode cL_law 1234 = .ok (.iload 4, 2) := by decide +kernel
theorem dL_law_1236 : decode cL_law 1236 = .ok (.iconst 1, 1) := by decide +kernel
theorem dL_law_1237 : decode cL_law 1237 = .ok (.iadd, 1) := by decide +kernel
theorem dL_law_1238 : decode cL_law 1238 = .ok (.iaload, 1) := by decide +kernel
theorem dL_law_1239 : decode cL_law 1239 = .ok (.invokevirtual 163, 3) := by decide +kernel
theorem dL_law_1242 : decode cL_law 1242 = .ok (.if_icmp .eq 5, 3) := by decide +kernel
theorem dL_law_1245 : decode cL_law 1245 = .ok (.iconst 0, 1) := by decide +kernel
theorem dL_law_1246 : decode cL_law 1246 = .ok (.ireturn, 1) := by decide +kernel
theorem dL_law_1247 : decode cL_law 1247 = .ok (.iinc 4 6, 3) := by decide +kernel
theorem dL_law_1250 : decode cL_law 1250 = .ok (.goto (-1227), 3) := by decide +kernel
theorem dL_law_1253 : decode cL_law 1253 = .ok (.iconst 1, 1) := by decide +kernel
theorem dL_law_1254 : decode cL_law 1254 = .ok (.ireturn, 1) := by decide +kernel
