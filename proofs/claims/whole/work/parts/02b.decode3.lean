theorem dX10_comes_127 : decode cX10_comes 127 = .ok (.iadd, 1) := by decide +kernel
theorem dX10_comes_128 : decode cX10_comes 128 = .ok (.iaload, 1) := by decide +kernel
theorem dX10_comes_129 : decode cX10_comes 129 = .ok (.ifCond .eq 5, 3) := by decide +kernel
theorem dX10_comes_132 : decode cX10_comes 132 = .ok (.iconst 0, 1) := by decide +kernel
theorem dX10_comes_133 : decode cX10_comes 133 = .ok (.ireturn, 1) := by decide +kernel
theorem dX10_comes_134 : decode cX10_comes 134 = .ok (.iload_n 2, 1) := by decide +kernel
theorem dX10_comes_135 : decode cX10_comes 135 = .ok (.bipush 99, 2) := by decide +kernel
theorem dX10_comes_137 : decode cX10_comes 137 = .ok (.if_icmp .ne 7, 3) := by decide +kernel
theorem dX10_comes_140 : decode cX10_comes 140 = .ok (.iconst 3, 1) := by decide +kernel
theorem dX10_comes_141 : decode cX10_comes 141 = .ok (.goto 11, 3) := by decide +kernel
theorem dX10_comes_144 : decode cX10_comes 144 = .ok (.iconst 1, 1) := by decide +kernel
theorem dX10_comes_145 : decode cX10_comes 145 = .ok (.aload_n 0, 1) := by decide +kernel
theorem dX10_comes_146 : decode cX10_comes 146 = .ok (.getfield 43, 3) := by decide +kernel
theorem dX10_comes_149 : decode cX10_comes 149 = .ok (.iload_n 1, 1) := by decide +kernel
theorem dX10_comes_150 : decode cX10_comes 150 = .ok (.iaload, 1) := by decide +kernel
theorem dX10_comes_151 : decode cX10_comes 151 = .ok (.iadd, 1) := by decide +kernel
theorem dX10_comes_152 : decode cX10_comes 152 = .ok (.istore 5, 2) := by decide +kernel
theorem dX10_comes_154 : decode cX10_comes 154 = .ok (.aload_n 0, 1) := by decide +kernel
theorem dX10_comes_155 : decode cX10_comes 155 = .ok (.getfield 13, 3) := by decide +kernel
theorem dX10_comes_158 : decode cX10_comes 158 = .ok (.bipush 6, 2) := by decide +kernel
theorem dX10_comes_160 : decode cX10_comes 160 = .ok (.iload_n 3, 1) := by decide +kernel
theorem dX10_comes_161 : decode cX10_comes 161 = .ok (.imul, 1) := by decide +kernel
theorem dX10_comes_162 : decode cX10_comes 162 = .ok (.iload 4, 2) := by decide +kernel
theorem dX10_comes_164 : decode cX10_comes 164 = .ok (.iadd, 1) := by decide +kernel
theorem dX10_comes_165 : decode cX10_comes 165 = .ok (.iload 5, 2) := by decide +kernel
theorem dX10_comes_167 : decode cX10_comes 167 = .ok (.iastore, 1) := by decide +kernel
theorem dX10_comes_168 : decode cX10_comes 168 = .ok (.aload_n 0, 1) := by decide +kernel
theorem dX10_comes_169 : decode cX10_comes 169 = .ok (.getfield 13, 3) := by decide +kernel
theorem dX10_comes_172 : decode cX10_comes 172 = .ok (.bipush 6, 2) := by decide +kernel
theorem dX10_comes_174 : decode cX10_comes 174 = .ok (.iload 4, 2) := by decide +kernel
theorem dX10_comes_176 : decode cX10_comes 176 = .ok (.imul, 1) := by decide +kernel
theorem dX10_comes_177 : decode cX10_comes 177 = .ok (.iload_n 3, 1) := by decide +kernel
theorem dX10_comes_178 : decode cX10_comes 178 = .ok (.iadd, 1) := by decide +kernel
theorem dX10_comes_179 : decode cX10_comes 179 = .ok (.iload 5, 2) := by decide +kernel
theorem dX10_comes_181 : decode cX10_comes 181 = .ok (.iastore, 1) := by decide +kernel
theorem dX10_comes_182 : decode cX10_comes 182 = .ok (.iconst 1, 1) := by decide +kernel
theorem dX10_comes_183 : decode cX10_comes 183 = .ok (.ireturn, 1) := by decide +kernel
theorem dX10_comes_184 : decode cX10_comes 184 = .ok (.aload_n 0, 1) := by decide +kernel
theorem dX10_comes_185 : decode cX10_comes 185 = .ok (.iload_n 3, 1) := by decide +kernel
theorem dX10_comes_186 : decode cX10_comes 186 = .ok (.invokevirtual 181, 3) := by decide +kernel
theorem dX10_comes_189 : decode cX10_comes 189 = .ok (.ifCond .eq 12, 3) := by decide +kernel
theorem dX10_comes_192 : decode cX10_comes 192 = .ok (.aload_n 0, 1) := by decide +kernel
theorem dX10_comes_193 : decode cX10_comes 193 = .ok (.iload 4, 2) := by decide +kernel
theorem dX10_comes_195 : decode cX10_comes 195 = .ok (.invokevirtual 178, 3) := by decide +kernel
theorem dX10_comes_198 : decode cX10_comes 198 = .ok (.ifCond .ne 5, 3) := by decide +kernel
theorem dX10_comes_201 : decode cX10_comes 201 = .ok (.iconst 0, 1) := by decide +kernel
theorem dX10_comes_202 : decode cX10_comes 202 = .ok (.ireturn, 1) := by decide +kernel
theorem dX10_comes_203 : decode cX10_comes 203 = .ok (.iload_n 2, 1) := by decide +kernel
theorem dX10_comes_204 : decode cX10_comes 204 = .ok (.bipush 119, 2) := by decide +kernel
theorem dX10_comes_206 : decode cX10_comes 206 = .ok (.if_icmp .ne 24, 3) := by decide +kernel
theorem dX10_comes_209 : decode cX10_comes 209 = .ok (.aload_n 0, 1) := by decide +kernel
theorem dX10_comes_210 : decode cX10_comes 210 = .ok (.getfield 22, 3) := by decide +kernel
theorem dX10_comes_213 : decode cX10_comes 213 = .ok (.bipush 6, 2) := by decide +kernel
theorem dX10_comes_215 : decode cX10_comes 215 = .ok (.iload_n 3, 1) := by decide +kernel
theorem dX10_comes_216 : decode cX10_comes 216 = .ok (.imul, 1) := by decide +kernel
theorem dX10_comes_217 : decode cX10_comes 217 = .ok (.iload 4, 2) := by decide +kernel
theorem dX10_comes_219 : decode cX10_comes 219 = .ok (.iadd, 1) := by decide +kernel
theorem dX10_comes_220 : decode cX10_comes 220 = .ok (.aload_n 0, 1) := by decide +kernel
theorem dX10_comes_221 : decode cX10_comes 221 = .ok (.getfield 43, 3) := by decide +kernel
theorem dX10_comes_224 : decode cX10_comes 224 = .ok (.iload_n 1, 1) := by decide +kernel
theorem dX10_comes_225 : decode cX10_comes 225 = .ok (.iaload, 1) := by decide +kernel
theorem dX10_comes_226 : decode cX10_comes 226 = .ok (.iastore, 1) := by decide +kernel
theorem dX10_comes_227 : decode cX10_comes 227 = .ok (.goto 13, 3) := by decide +kernel
theorem dX10_comes_230 : decode cX10_comes 230 = .ok (.aload_n 0, 1) := by decide +kernel
theorem dX10_comes_231 : decode cX10_comes 231 = .ok (.getfield 25, 3) := by decide +kernel
theorem dX10_comes_234 : decode cX10_comes 234 = .ok (.iload 4, 2) := by decide +kernel
theorem dX10_comes_236 : decode cX10_comes 236 = .ok (.iload_n 3, 1) := by decide +kernel
theorem dX10_comes_237 : decode cX10_comes 237 = .ok (.iconst 1, 1) := by decide +kernel
theorem dX10_comes_238 : decode cX10_comes 238 = .ok (.iadd, 1) := by decide +kernel
theorem dX10_comes_239 : decode cX10_comes 239 = .ok (.iastore, 1) := by decide +kernel
theorem dX10_comes_240 : decode cX10_comes 240 = .ok (.iconst 1, 1) := by decide +kernel
theorem dX10_comes_241 : decode cX10_comes 241 = .ok (.ireturn, 1) := by decide +kernel
theorem dX10_fieldComes_0 : decode cX10_fieldComes 0 = .ok (.iload_n 1, 1) := by decide +kernel
theorem dX10_fieldComes_1 : decode cX10_fieldComes 1 = .ok (.ifCond .eq 12, 3) := by decide +kernel
theorem dX10_fieldComes_4 : decode cX10_fieldComes 4 = .ok (.aload_n 0, 1) := by decide +kernel
theorem dX10_fieldComes_5 : decode cX10_fieldComes 5 = .ok (.getfield 103, 3) := by decide +kernel
theorem dX10_fieldComes_8 : decode cX10_fieldComes 8 = .ok (.bipush 6, 2) := by decide +kernel
theorem dX10_fieldComes_10 : decode cX10_fieldComes 10 = .ok (.if_icmp .ne 5, 3) := by decide +kernel
theorem dX10_fieldComes_13 : decode cX10_fieldComes 13 = .ok (.iconst 0, 1) := by decide +kernel
theorem dX10_fieldComes_14 : decode cX10_fieldComes 14 = .ok (.ireturn, 1) := by decide +kernel
theorem dX10_fieldComes_15 : decode cX10_fieldComes 15 = .ok (.aload_n 0, 1) := by decide +kernel
theorem dX10_fieldComes_16 : decode cX10_fieldComes 16 = .ok (.getfield 7, 3) := by decide +kernel
theorem dX10_fieldComes_19 : decode cX10_fieldComes 19 = .ok (.aload_n 0, 1) := by decide +kernel
theorem dX10_fieldComes_20 : decode cX10_fieldComes 20 = .ok (.getfield 103, 3) := by decide +kernel
theorem dX10_fieldComes_23 : decode cX10_fieldComes 23 = .ok (.iload_n 1, 1) := by decide +kernel
theorem dX10_fieldComes_24 : decode cX10_fieldComes 24 = .ok (.iastore, 1) := by decide +kernel
theorem dX10_fieldComes_25 : decode cX10_fieldComes 25 = .ok (.aload_n 0, 1) := by decide +kernel
theorem dX10_fieldComes_26 : decode cX10_fieldComes 26 = .ok (.getfield 25, 3) := by decide +kernel
theorem dX10_fieldComes_29 : decode cX10_fieldComes 29 = .ok (.aload_n 0, 1) := by decide +kernel
theorem dX10_fieldComes_30 : decode cX10_fieldComes 30 = .ok (.getfield 103, 3) := by decide +kernel
theorem dX10_fieldComes_33 : decode cX10_fieldComes 33 = .ok (.iconst 0, 1) := by decide +kernel
theorem dX10_fieldComes_34 : decode cX10_fieldComes 34 = .ok (.iastore, 1) := by decide +kernel
theorem dX10_fieldComes_35 : decode cX10_fieldComes 35 = .ok (.iconst 0, 1) := by decide +kernel
theorem dX10_fieldComes_36 : decode cX10_fieldComes 36 = .ok (.istore_n 2, 1) := by decide +kernel
theorem dX10_fieldComes_37 : decode cX10_fieldComes 37 = .ok (.iload_n 2, 1) := by decide +kernel
theorem dX10_fieldComes_38 : decode cX10_fieldComes 38 = .ok (.bipush 6, 2) := by decide +kernel
theorem dX10_fieldComes_40 : decode cX10_fieldComes 40 = .ok (.if_icmp .ge 39, 3) := by decide +kernel
theorem dX10_fieldComes_43 : decode cX10_fieldComes 43 = .ok (.aload_n 0, 1) := by decide +kernel
theorem dX10_fieldComes_44 : decode cX10_fieldComes 44 = .ok (.getfield 13, 3) := by decide +kernel
theorem dX10_fieldComes_47 : decode cX10_fieldComes 47 = .ok (.bipush 6, 2) := by decide +kernel
theorem dX10_fieldComes_49 : decode cX10_fieldComes 49 = .ok (.aload_n 0, 1) := by decide +kernel
theorem dX10_fieldComes_50 : decode cX10_fieldComes 50 = .ok (.getfield 103, 3) := by decide +kernel
theorem dX10_fieldComes_53 : decode cX10_fieldComes 53 = .ok (.imul, 1) := by decide +kernel
theorem dX10_fieldComes_54 : decode cX10_fieldComes 54 = .ok (.iload_n 2, 1) := by decide +kernel
theorem dX10_fieldComes_55 : decode cX10_fieldComes 55 = .ok (.iadd, 1) := by decide +kernel
theorem dX10_fieldComes_56 : decode cX10_fieldComes 56 = .ok (.iconst 0, 1) := by decide +kernel
theorem dX10_fieldComes_57 : decode cX10_fieldComes 57 = .ok (.iastore, 1) := by decide +kernel
theorem dX10_fieldComes_58 : decode cX10_fieldComes 58 = .ok (.aload_n 0, 1) := by decide +kernel
theorem dX10_fieldComes_59 : decode cX10_fieldComes 59 = .ok (.getfield 13, 3) := by decide +kernel
theorem dX10_fieldComes_62 : decode cX10_fieldComes 62 = .ok (.bipush 6, 2) := by decide +kernel
theorem dX10_fieldComes_64 : decode cX10_fieldComes 64 = .ok (.iload_n 2, 1) := by decide +kernel
theorem dX10_fieldComes_65 : decode cX10_fieldComes 65 = .ok (.imul, 1) := by decide +kernel
theorem dX10_fieldComes_66 : decode cX10_fieldComes 66 = .ok (.aload_n 0, 1) := by decide +kernel
theorem dX10_fieldComes_67 : decode cX10_fieldComes 67 = .ok (.getfield 103, 3) := by decide +kernel
theorem dX10_fieldComes_70 : decode cX10_fieldComes 70 = .ok (.iadd, 1) := by decide +kernel
theorem dX10_fieldComes_71 : decode cX10_fieldComes 71 = .ok (.iconst 0, 1) := by decide +kernel
theorem dX10_fieldComes_72 : decode cX10_fieldComes 72 = .ok (.iastore, 1) := by decide +kernel
theorem dX10_fieldComes_73 : decode cX10_fieldComes 73 = .ok (.iinc 2 1, 3) := by decide +kernel
theorem dX10_fieldComes_76 : decode cX10_fieldComes 76 = .ok (.goto (-39), 3) := by decide +kernel
theorem dX10_fieldComes_79 : decode cX10_fieldComes 79 = .ok (.iconst 0, 1) := by decide +kernel
theorem dX10_fieldComes_80 : decode cX10_fieldComes 80 = .ok (.istore_n 2, 1) := by decide +kernel
theorem dX10_fieldComes_81 : decode cX10_fieldComes 81 = .ok (.iload_n 2, 1) := by decide +kernel
theorem dX10_fieldComes_82 : decode cX10_fieldComes 82 = .ok (.iconst 3, 1) := by decide +kernel
theorem dX10_fieldComes_83 : decode cX10_fieldComes 83 = .ok (.if_icmp .ge 27, 3) := by decide +kernel
theorem dX10_fieldComes_86 : decode cX10_fieldComes 86 = .ok (.aload_n 0, 1) := by decide +kernel
theorem dX10_fieldComes_87 : decode cX10_fieldComes 87 = .ok (.getfield 22, 3) := by decide +kernel
theorem dX10_fieldComes_90 : decode cX10_fieldComes 90 = .ok (.bipush 6, 2) := by decide +kernel
theorem dX10_fieldComes_92 : decode cX10_fieldComes 92 = .ok (.iload_n 2, 1) := by decide +kernel
theorem dX10_fieldComes_93 : decode cX10_fieldComes 93 = .ok (.imul, 1) := by decide +kernel
theorem dX10_fieldComes_94 : decode cX10_fieldComes 94 = .ok (.aload_n 0, 1) := by decide +kernel
theorem dX10_fieldComes_95 : decode cX10_fieldComes 95 = .ok (.getfield 103, 3) := by decide +kernel
theorem dX10_fieldComes_98 : decode cX10_fieldComes 98 = .ok (.iadd, 1) := by decide +kernel
theorem dX10_fieldComes_99 : decode cX10_fieldComes 99 = .ok (.bipush 10, 2) := by decide +kernel
theorem dX10_fieldComes_101 : decode cX10_fieldComes 101 = .ok (.iload_n 1, 1) := by decide +kernel
theorem dX10_fieldComes_102 : decode cX10_fieldComes 102 = .ok (.imul, 1) := by decide +kernel
theorem dX10_fieldComes_103 : decode cX10_fieldComes 103 = .ok (.iastore, 1) := by decide +kernel
theorem dX10_fieldComes_104 : decode cX10_fieldComes 104 = .ok (.iinc 2 1, 3) := by decide +kernel
theorem dX10_fieldComes_107 : decode cX10_fieldComes 107 = .ok (.goto (-26), 3) := by decide +kernel
theorem dX10_fieldComes_110 : decode cX10_fieldComes 110 = .ok (.aload_n 0, 1) := by decide +kernel
theorem dX10_fieldComes_111 : decode cX10_fieldComes 111 = .ok (.dup, 1) := by decide +kernel
theorem dX10_fieldComes_112 : decode cX10_fieldComes 112 = .ok (.getfield 103, 3) := by decide +kernel
theorem dX10_fieldComes_115 : decode cX10_fieldComes 115 = .ok (.iconst 1, 1) := by decide +kernel
theorem dX10_fieldComes_116 : decode cX10_fieldComes 116 = .ok (.iadd, 1) := by decide +kernel
theorem dX10_fieldComes_117 : decode cX10_fieldComes 117 = .ok (.putfield 103, 3) := by decide +kernel
theorem dX10_fieldComes_120 : decode cX10_fieldComes 120 = .ok (.iconst 1, 1) := by decide +kernel
theorem dX10_fieldComes_121 : decode cX10_fieldComes 121 = .ok (.ireturn, 1) := by decide +kernel
theorem dX10_personComes_0 : decode cX10_personComes 0 = .ok (.iload_n 2, 1) := by decide +kernel
theorem dX10_personComes_1 : decode cX10_personComes 1 = .ok (.aload_n 0, 1) := by decide +kernel
theorem dX10_personComes_2 : decode cX10_personComes 2 = .ok (.getfield 110, 3) := by decide +kernel
theorem dX10_personComes_5 : decode cX10_personComes 5 = .ok (.if_icmp .ge 11, 3) := by decide +kernel
theorem dX10_personComes_8 : decode cX10_personComes 8 = .ok (.aload_n 0, 1) := by decide +kernel
theorem dX10_personComes_9 : decode cX10_personComes 9 = .ok (.getfield 110, 3) := by decide +kernel
theorem dX10_personComes_12 : decode cX10_personComes 12 = .ok (.iconst 3, 1) := by decide +kernel
theorem dX10_personComes_13 : decode cX10_personComes 13 = .ok (.if_icmp .ne 5, 3) := by decide +kernel
theorem dX10_personComes_16 : decode cX10_personComes 16 = .ok (.iconst 0, 1) := by decide +kernel
theorem dX10_personComes_17 : decode cX10_personComes 17 = .ok (.ireturn, 1) := by decide +kernel
theorem dX10_personComes_18 : decode cX10_personComes 18 = .ok (.aload_n 0, 1) := by decide +kernel
theorem dX10_personComes_19 : decode cX10_personComes 19 = .ok (.getfield 16, 3) := by decide +kernel
theorem dX10_personComes_22 : decode cX10_personComes 22 = .ok (.aload_n 0, 1) := by decide +kernel
theorem dX10_personComes_23 : decode cX10_personComes 23 = .ok (.getfield 110, 3) := by decide +kernel
theorem dX10_personComes_26 : decode cX10_personComes 26 = .ok (.iload_n 1, 1) := by decide +kernel
theorem dX10_personComes_27 : decode cX10_personComes 27 = .ok (.iastore, 1) := by decide +kernel
theorem dX10_personComes_28 : decode cX10_personComes 28 = .ok (.aload_n 0, 1) := by decide +kernel
theorem dX10_personComes_29 : decode cX10_personComes 29 = .ok (.getfield 19, 3) := by decide +kernel
theorem dX10_personComes_32 : decode cX10_personComes 32 = .ok (.aload_n 0, 1) := by decide +kernel
theorem dX10_personComes_33 : decode cX10_personComes 33 = .ok (.getfield 110, 3) := by decide +kernel
theorem dX10_personComes_36 : decode cX10_personComes 36 = .ok (.iload_n 2, 1) := by decide +kernel
theorem dX10_personComes_37 : decode cX10_personComes 37 = .ok (.iastore, 1) := by decide +kernel
theorem dX10_personComes_38 : decode cX10_personComes 38 = .ok (.iconst 0, 1) := by decide +kernel
theorem dX10_personComes_39 : decode cX10_personComes 39 = .ok (.istore_n 3, 1) := by decide +kernel
theorem dX10_personComes_40 : decode cX10_personComes 40 = .ok (.iload_n 3, 1) := by decide +kernel
theorem dX10_personComes_41 : decode cX10_personComes 41 = .ok (.aload_n 0, 1) := by decide +kernel
theorem dX10_personComes_42 : decode cX10_personComes 42 = .ok (.getfield 103, 3) := by decide +kernel
theorem dX10_personComes_45 : decode cX10_personComes 45 = .ok (.if_icmp .ge 32, 3) := by decide +kernel
theorem dX10_personComes_48 : decode cX10_personComes 48 = .ok (.aload_n 0, 1) := by decide +kernel
theorem dX10_personComes_49 : decode cX10_personComes 49 = .ok (.getfield 22, 3) := by decide +kernel
theorem dX10_personComes_52 : decode cX10_personComes 52 = .ok (.bipush 6, 2) := by decide +kernel
theorem dX10_personComes_54 : decode cX10_personComes 54 = .ok (.aload_n 0, 1) := by decide +kernel
theorem dX10_personComes_55 : decode cX10_personComes 55 = .ok (.getfield 110, 3) := by decide +kernel
theorem dX10_personComes_58 : decode cX10_personComes 58 = .ok (.imul, 1) := by decide +kernel
theorem dX10_personComes_59 : decode cX10_personComes 59 = .ok (.iload_n 3, 1) := by decide +kernel
theorem dX10_personComes_60 : decode cX10_personComes 60 = .ok (.iadd, 1) := by decide +kernel
theorem dX10_personComes_61 : decode cX10_personComes 61 = .ok (.bipush 10, 2) := by decide +kernel
theorem dX10_personComes_63 : decode cX10_personComes 63 = .ok (.aload_n 0, 1) := by decide +kernel
theorem dX10_personComes_64 : decode cX10_personComes 64 = .ok (.getfield 7, 3) := by decide +kernel
theorem dX10_personComes_67 : decode cX10_personComes 67 = .ok (.iload_n 3, 1) := by decide +kernel
theorem dX10_personComes_68 : decode cX10_personComes 68 = .ok (.iaload, 1) := by decide +kernel
theorem dX10_personComes_69 : decode cX10_personComes 69 = .ok (.imul, 1) := by decide +kernel
theorem dX10_personComes_70 : decode cX10_personComes 70 = .ok (.iastore, 1) := by decide +kernel
theorem dX10_personComes_71 : decode cX10_personComes 71 = .ok (.iinc 3 1, 3) := by decide +kernel
theorem dX10_personComes_74 : decode cX10_personComes 74 = .ok (.goto (-34), 3) := by decide +kernel
theorem dX10_personComes_77 : decode cX10_personComes 77 = .ok (.aload_n 0, 1) := by decide +kernel
theorem dX10_personComes_78 : decode cX10_personComes 78 = .ok (.dup, 1) := by decide +kernel
theorem dX10_personComes_79 : decode cX10_personComes 79 = .ok (.getfield 110, 3) := by decide +kernel
theorem dX10_personComes_82 : decode cX10_personComes 82 = .ok (.iconst 1, 1) := by decide +kernel
theorem dX10_personComes_83 : decode cX10_personComes 83 = .ok (.iadd, 1) := by decide +kernel
theorem dX10_personComes_84 : decode cX10_personComes 84 = .ok (.putfield 110, 3) := by decide +kernel
theorem dX10_personComes_87 : decode cX10_personComes 87 = .ok (.iconst 1, 1) := by decide +kernel
theorem dX10_personComes_88 : decode cX10_personComes 88 = .ok (.ireturn, 1) := by decide +kernel
theorem dX10_land_0 : decode cX10_land 0 = .ok (.aload_n 0, 1) := by decide +kernel
theorem dX10_land_1 : decode cX10_land 1 = .ok (.iconst 0, 1) := by decide +kernel
theorem dX10_land_2 : decode cX10_land 2 = .ok (.putfield 99, 3) := by decide +kernel
theorem dX10_land_5 : decode cX10_land 5 = .ok (.aload_n 0, 1) := by decide +kernel
theorem dX10_land_6 : decode cX10_land 6 = .ok (.iload_n 1, 1) := by decide +kernel
theorem dX10_land_7 : decode cX10_land 7 = .ok (.invokevirtual 184, 3) := by decide +kernel
theorem dX10_land_10 : decode cX10_land 10 = .ok (.istore_n 2, 1) := by decide +kernel
theorem dX10_land_11 : decode cX10_land 11 = .ok (.iload_n 2, 1) := by decide +kernel
theorem dX10_land_12 : decode cX10_land 12 = .ok (.ifCond .ge 5, 3) := by decide +kernel
theorem dX10_land_15 : decode cX10_land 15 = .ok (.iload_n 2, 1) := by decide +kernel
theorem dX10_land_16 : decode cX10_land 16 = .ok (.ireturn, 1) := by decide +kernel
theorem dX10_land_17 : decode cX10_land 17 = .ok (.aload_n 0, 1) := by decide +kernel
theorem dX10_land_18 : decode cX10_land 18 = .ok (.bipush 100, 2) := by decide +kernel
theorem dX10_land_20 : decode cX10_land 20 = .ok (.iload_n 1, 1) := by decide +kernel
theorem dX10_land_21 : decode cX10_land 21 = .ok (.imul, 1) := by decide +kernel
theorem dX10_land_22 : decode cX10_land 22 = .ok (.putfield 139, 3) := by decide +kernel
theorem dX10_land_25 : decode cX10_land 25 = .ok (.aload_n 0, 1) := by decide +kernel
theorem dX10_land_26 : decode cX10_land 26 = .ok (.aload_n 0, 1) := by decide +kernel
theorem dX10_land_27 : decode cX10_land 27 = .ok (.getfield 89, 3) := by decide +kernel
theorem dX10_land_30 : decode cX10_land 30 = .ok (.iload_n 1, 1) := by decide +kernel
theorem dX10_land_31 : decode cX10_land 31 = .ok (.iaload, 1) := by decide +kernel
theorem dX10_land_32 : decode cX10_land 32 = .ok (.putfield 136, 3) := by decide +kernel
theorem dX10_land_35 : decode cX10_land 35 = .ok (.aload_n 0, 1) := by decide +kernel
theorem dX10_land_36 : decode cX10_land 36 = .ok (.iconst 0, 1) := by decide +kernel
theorem dX10_land_37 : decode cX10_land 37 = .ok (.putfield 133, 3) := by decide +kernel
theorem dX10_land_40 : decode cX10_land 40 = .ok (.aload_n 0, 1) := by decide +kernel
theorem dX10_land_41 : decode cX10_land 41 = .ok (.iconst 0, 1) := by decide +kernel
theorem dX10_land_42 : decode cX10_land 42 = .ok (.putfield 142, 3) := by decide +kernel
theorem dX10_land_45 : decode cX10_land 45 = .ok (.aload_n 0, 1) := by decide +kernel
theorem dX10_land_46 : decode cX10_land 46 = .ok (.iconst 0, 1) := by decide +kernel
theorem dX10_land_47 : decode cX10_land 47 = .ok (.putfield 164, 3) := by decide +kernel
theorem dX10_land_50 : decode cX10_land 50 = .ok (.aload_n 0, 1) := by decide +kernel
theorem dX10_land_51 : decode cX10_land 51 = .ok (.getfield 142, 3) := by decide +kernel
theorem dX10_land_54 : decode cX10_land 54 = .ok (.ifCond .ne 28, 3) := by decide +kernel
theorem dX10_land_57 : decode cX10_land 57 = .ok (.aload_n 0, 1) := by decide +kernel
theorem dX10_land_58 : decode cX10_land 58 = .ok (.getfield 164, 3) := by decide +kernel
theorem dX10_land_61 : decode cX10_land 61 = .ok (.ifCond .eq 14, 3) := by decide +kernel
theorem dX10_land_64 : decode cX10_land 64 = .ok (.aload_n 0, 1) := by decide +kernel
theorem dX10_land_65 : decode cX10_land 65 = .ok (.getfield 133, 3) := by decide +kernel
theorem dX10_land_68 : decode cX10_land 68 = .ok (.aload_n 0, 1) := by decide +kernel
theorem dX10_land_69 : decode cX10_land 69 = .ok (.getfield 136, 3) := by decide +kernel
theorem dX10_land_72 : decode cX10_land 72 = .ok (.if_icmp .ge 10, 3) := by decide +kernel
theorem dX10_land_75 : decode cX10_land 75 = .ok (.aload_n 0, 1) := by decide +kernel
theorem dX10_land_76 : decode cX10_land 76 = .ok (.invokevirtual 187, 3) := by decide +kernel
theorem dX10_land_79 : decode cX10_land 79 = .ok (.goto (-29), 3) := by decide +kernel
theorem dX10_land_82 : decode cX10_land 82 = .ok (.aload_n 0, 1) := by decide +kernel
theorem dX10_land_83 : decode cX10_land 83 = .ok (.getfield 142, 3) := by decide +kernel
theorem dX10_land_86 : decode cX10_land 86 = .ok (.ifCond .eq 12, 3) := by decide +kernel
theorem dX10_land_89 : decode cX10_land 89 = .ok (.sipush (-1000), 3) := by decide +kernel
theorem dX10_land_92 : decode cX10_land 92 = .ok (.aload_n 0, 1) := by decide +kernel
theorem dX10_land_93 : decode cX10_land 93 = .ok (.getfield 133, 3) := by decide +kernel
theorem dX10_land_96 : decode cX10_land 96 = .ok (.isub, 1) := by decide +kernel
theorem dX10_land_97 : decode cX10_land 97 = .ok (.ireturn, 1) := by decide +kernel
theorem dX10_land_98 : decode cX10_land 98 = .ok (.aload_n 0, 1) := by decide +kernel
theorem dX10_land_99 : decode cX10_land 99 = .ok (.aload_n 0, 1) := by decide +kernel
theorem dX10_land_100 : decode cX10_land 100 = .ok (.getfield 74, 3) := by decide +kernel
theorem dX10_land_103 : decode cX10_land 103 = .ok (.iconst 1, 1) := by decide +kernel
theorem dX10_land_104 : decode cX10_land 104 = .ok (.invokevirtual 190, 3) := by decide +kernel
theorem dX10_land_107 : decode cX10_land 107 = .ok (.iconst 0, 1) := by decide +kernel
theorem dX10_land_108 : decode cX10_land 108 = .ok (.istore_n 3, 1) := by decide +kernel
theorem dX10_land_109 : decode cX10_land 109 = .ok (.iload_n 3, 1) := by decide +kernel
theorem dX10_land_110 : decode cX10_land 110 = .ok (.aload_n 0, 1) := by decide +kernel
theorem dX10_land_111 : decode cX10_land 111 = .ok (.getfield 164, 3) := by decide +kernel
theorem dX10_land_114 : decode cX10_land 114 = .ok (.if_icmp .ge 37, 3) := by decide +kernel
theorem dX10_land_117 : decode cX10_land 117 = .ok (.aload_n 0, 1) := by decide +kernel
theorem dX10_land_118 : decode cX10_land 118 = .ok (.iload_n 3, 1) := by decide +kernel
theorem dX10_land_119 : decode cX10_land 119 = .ok (.invokevirtual 194, 3) := by decide +kernel
theorem dX10_land_122 : decode cX10_land 122 = .ok (.ifCond .ne 23, 3) := by decide +kernel
theorem dX10_land_125 : decode cX10_land 125 = .ok (.aload_n 0, 1) := by decide +kernel
theorem dX10_land_126 : decode cX10_land 126 = .ok (.aload_n 0, 1) := by decide +kernel
theorem dX10_land_127 : decode cX10_land 127 = .ok (.getfield 74, 3) := by decide +kernel
theorem dX10_land_130 : decode cX10_land 130 = .ok (.iconst 0, 1) := by decide +kernel
theorem dX10_land_131 : decode cX10_land 131 = .ok (.invokevirtual 190, 3) := by decide +kernel
theorem dX10_land_134 : decode cX10_land 134 = .ok (.sipush (-2000), 3) := by decide +kernel
theorem dX10_land_137 : decode cX10_land 137 = .ok (.aload_n 0, 1) := by decide +kernel
theorem dX10_land_138 : decode cX10_land 138 = .ok (.getfield 31, 3) := by decide +kernel
theorem dX10_land_141 : decode cX10_land 141 = .ok (.iload_n 3, 1) := by decide +kernel
theorem dX10_land_142 : decode cX10_land 142 = .ok (.iaload, 1) := by decide +kernel
theorem dX10_land_143 : decode cX10_land 143 = .ok (.isub, 1) := by decide +kernel
theorem dX10_land_144 : decode cX10_land 144 = .ok (.ireturn, 1) := by decide +kernel
theorem dX10_land_145 : decode cX10_land 145 = .ok (.iinc 3 1, 3) := by decide +kernel
theorem dX10_land_148 : decode cX10_land 148 = .ok (.goto (-39), 3) := by decide +kernel
theorem dX10_land_151 : decode cX10_land 151 = .ok (.aload_n 0, 1) := by decide +kernel
theorem dX10_land_152 : decode cX10_land 152 = .ok (.getfield 164, 3) := by decide +kernel
theorem dX10_land_155 : decode cX10_land 155 = .ok (.ireturn, 1) := by decide +kernel
theorem dX10_barring_0 : decode cX10_barring 0 = .ok (.iconst 0, 1) := by decide +kernel
theorem dX10_barring_1 : decode cX10_barring 1 = .ok (.istore_n 2, 1) := by decide +kernel
theorem dX10_barring_2 : decode cX10_barring 2 = .ok (.iconst 0, 1) := by decide +kernel
theorem dX10_barring_3 : decode cX10_barring 3 = .ok (.istore_n 3, 1) := by decide +kernel
theorem dX10_barring_4 : decode cX10_barring 4 = .ok (.iload_n 3, 1) := by decide +kernel
theorem dX10_barring_5 : decode cX10_barring 5 = .ok (.aload_n 0, 1) := by decide +kernel
theorem dX10_barring_6 : decode cX10_barring 6 = .ok (.getfield 103, 3) := by decide +kernel
theorem dX10_barring_9 : decode cX10_barring 9 = .ok (.if_icmp .ge 33, 3) := by decide +kernel
theorem dX10_barring_12 : decode cX10_barring 12 = .ok (.iload_n 3, 1) := by decide +kernel
theorem dX10_barring_13 : decode cX10_barring 13 = .ok (.iload_n 1, 1) := by decide +kernel
theorem dX10_barring_14 : decode cX10_barring 14 = .ok (.if_icmp .eq 20, 3) := by decide +kernel
theorem dX10_barring_17 : decode cX10_barring 17 = .ok (.aload_n 0, 1) := by decide +kernel
theorem dX10_barring_18 : decode cX10_barring 18 = .ok (.iload_n 1, 1) := by decide +kernel
theorem dX10_barring_19 : decode cX10_barring 19 = .ok (.iload_n 3, 1) := by decide +kernel
theorem dX10_barring_20 : decode cX10_barring 20 = .ok (.invokevirtual 119, 3) := by decide +kernel
theorem dX10_barring_23 : decode cX10_barring 23 = .ok (.ifCond .eq 11, 3) := by decide +kernel
theorem dX10_barring_26 : decode cX10_barring 26 = .ok (.iload_n 2, 1) := by decide +kernel
theorem dX10_barring_27 : decode cX10_barring 27 = .ok (.iconst 1, 1) := by decide +kernel
theorem dX10_barring_28 : decode cX10_barring 28 = .ok (.iload_n 3, 1) := by decide +kernel
theorem dX10_barring_29 : decode cX10_barring 29 = .ok (.ishl, 1) := by decide +kernel
theorem dX10_barring_30 : decode cX10_barring 30 = .ok (.ior, 1) := by decide +kernel
theorem dX10_barring_31 : decode cX10_barring 31 = .ok (.goto 4, 3) := by decide +kernel
theorem dX10_barring_34 : decode cX10_barring 34 = .ok (.iload_n 2, 1) := by decide +kernel
theorem dX10_barring_35 : decode cX10_barring 35 = .ok (.istore_n 2, 1) := by decide +kernel
theorem dX10_barring_36 : decode cX10_barring 36 = .ok (.iinc 3 1, 3) := by decide +kernel
theorem dX10_barring_39 : decode cX10_barring 39 = .ok (.goto (-35), 3) := by decide +kernel
theorem dX10_barring_42 : decode cX10_barring 42 = .ok (.iload_n 2, 1) := by decide +kernel
theorem dX10_barring_43 : decode cX10_barring 43 = .ok (.ireturn, 1) := by decide +kernel
theorem dX10_field_0 : decode cX10_field 0 = .ok (.aload_n 0, 1) := by decide +kernel
theorem dX10_field_1 : decode cX10_field 1 = .ok (.iconst 0, 1) := by decide +kernel
theorem dX10_field_2 : decode cX10_field 2 = .ok (.putfield 99, 3) := by decide +kernel
theorem dX10_field_5 : decode cX10_field 5 = .ok (.aload_n 0, 1) := by decide +kernel
theorem dX10_field_6 : decode cX10_field 6 = .ok (.iload_n 1, 1) := by decide +kernel
theorem dX10_field_7 : decode cX10_field 7 = .ok (.invokevirtual 178, 3) := by decide +kernel
theorem dX10_field_10 : decode cX10_field 10 = .ok (.ifCond .eq 15, 3) := by decide +kernel
theorem dX10_field_13 : decode cX10_field 13 = .ok (.iload_n 2, 1) := by decide +kernel
theorem dX10_field_14 : decode cX10_field 14 = .ok (.i2l, 1) := by decide +kernel
theorem dX10_field_15 : decode cX10_field 15 = .ok (.lconst 0, 1) := by decide +kernel
theorem dX10_field_16 : decode cX10_field 16 = .ok (.ldc2_w 197, 3) := by decide +kernel
theorem dX10_field_19 : decode cX10_field 19 = .ok (.invokestatic 106, 3) := by decide +kernel
theorem dX10_field_22 : decode cX10_field 22 = .ok (.ifCond .ne 5, 3) := by decide +kernel
theorem dX10_field_25 : decode cX10_field 25 = .ok (.iconst (-1), 1) := by decide +kernel
theorem dX10_field_26 : decode cX10_field 26 = .ok (.ireturn, 1) := by decide +kernel
theorem dX10_field_27 : decode cX10_field 27 = .ok (.iload_n 2, 1) := by decide +kernel
theorem dX10_field_28 : decode cX10_field 28 = .ok (.ifCond .ne 12, 3) := by decide +kernel
theorem dX10_field_31 : decode cX10_field 31 = .ok (.aload_n 0, 1) := by decide +kernel
theorem dX10_field_32 : decode cX10_field 32 = .ok (.getfield 7, 3) := by decide +kernel
theorem dX10_field_35 : decode cX10_field 35 = .ok (.iload_n 1, 1) := by decide +kernel
theorem dX10_field_36 : decode cX10_field 36 = .ok (.iaload, 1) := by decide +kernel
theorem dX10_field_37 : decode cX10_field 37 = .ok (.goto 38, 3) := by decide +kernel
theorem dX10_field_40 : decode cX10_field 40 = .ok (.iload_n 2, 1) := by decide +kernel
theorem dX10_field_41 : decode cX10_field 41 = .ok (.iconst 2, 1) := by decide +kernel
theorem dX10_field_42 : decode cX10_field 42 = .ok (.if_icmp .ne 11, 3) := by decide +kernel
theorem dX10_field_45 : decode cX10_field 45 = .ok (.aload_n 0, 1) := by decide +kernel
theorem dX10_field_46 : decode cX10_field 46 = .ok (.iload_n 1, 1) := by decide +kernel
theorem dX10_field_47 : decode cX10_field 47 = .ok (.invokevirtual 199, 3) := by decide +kernel
theorem dX10_field_50 : decode cX10_field 50 = .ok (.goto 25, 3) := by decide +kernel
theorem dX10_field_53 : decode cX10_field 53 = .ok (.aload_n 0, 1) := by decide +kernel
theorem dX10_field_54 : decode cX10_field 54 = .ok (.getfield 25, 3) := by decide +kernel
theorem dX10_field_57 : decode cX10_field 57 = .ok (.iload_n 1, 1) := by decide +kernel
theorem dX10_field_58 : decode cX10_field 58 = .ok (.iaload, 1) := by decide +kernel
theorem dX10_field_59 : decode cX10_field 59 = .ok (.ifCond .ne 8, 3) := by decide +kernel
theorem dX10_field_62 : decode cX10_field 62 = .ok (.bipush (-4), 2) := by decide +kernel
theorem dX10_field_64 : decode cX10_field 64 = .ok (.goto 11, 3) := by decide +kernel
theorem dX10_field_67 : decode cX10_field 67 = .ok (.aload_n 0, 1) := by decide +kernel
theorem dX10_field_68 : decode cX10_field 68 = .ok (.getfield 25, 3) := by decide +kernel
theorem dX10_field_71 : decode cX10_field 71 = .ok (.iload_n 1, 1) := by decide +kernel
theorem dX10_field_72 : decode cX10_field 72 = .ok (.iaload, 1) := by decide +kernel
theorem dX10_field_73 : decode cX10_field 73 = .ok (.iconst 1, 1) := by decide +kernel
theorem dX10_field_74 : decode cX10_field 74 = .ok (.isub, 1) := by decide +kernel
theorem dX10_field_75 : decode cX10_field 75 = .ok (.ireturn, 1) := by decide +kernel
theorem dX10_touch_0 : decode cX10_touch 0 = .ok (.aload_n 0, 1) := by decide +kernel
theorem dX10_touch_1 : decode cX10_touch 1 = .ok (.iconst 0, 1) := by decide +kernel
theorem dX10_touch_2 : decode cX10_touch 2 = .ok (.putfield 99, 3) := by decide +kernel
theorem dX10_touch_5 : decode cX10_touch 5 = .ok (.aload_n 0, 1) := by decide +kernel
theorem dX10_touch_6 : decode cX10_touch 6 = .ok (.iload_n 1, 1) := by decide +kernel
theorem dX10_touch_7 : decode cX10_touch 7 = .ok (.invokevirtual 178, 3) := by decide +kernel
theorem dX10_touch_10 : decode cX10_touch 10 = .ok (.ifCond .eq 30, 3) := by decide +kernel
theorem dX10_touch_13 : decode cX10_touch 13 = .ok (.aload_n 0, 1) := by decide +kernel
theorem dX10_touch_14 : decode cX10_touch 14 = .ok (.iload_n 2, 1) := by decide +kernel
theorem dX10_touch_15 : decode cX10_touch 15 = .ok (.invokevirtual 178, 3) := by decide +kernel
theorem dX10_touch_18 : decode cX10_touch 18 = .ok (.ifCond .eq 22, 3) := by decide +kernel
theorem dX10_touch_21 : decode cX10_touch 21 = .ok (.iload_n 1, 1) := by decide +kernel
theorem dX10_touch_22 : decode cX10_touch 22 = .ok (.iload_n 2, 1) := by decide +kernel
theorem dX10_touch_23 : decode cX10_touch 23 = .ok (.if_icmp .eq 17, 3) := by decide +kernel
theorem dX10_touch_26 : decode cX10_touch 26 = .ok (.aload_n 0, 1) := by decide +kernel
theorem dX10_touch_27 : decode cX10_touch 27 = .ok (.getfield 13, 3) := by decide +kernel
theorem dX10_touch_30 : decode cX10_touch 30 = .ok (.bipush 6, 2) := by decide +kernel
theorem dX10_touch_32 : decode cX10_touch 32 = .ok (.iload_n 1, 1) := by decide +kernel
theorem dX10_touch_33 : decode cX10_touch 33 = .ok (.imul, 1) := by decide +kernel
theorem dX10_touch_34 : decode cX10_touch 34 = .ok (.iload_n 2, 1) := by decide +kernel
theorem dX10_touch_35 : decode cX10_touch 35 = .ok (.iadd, 1) := by decide +kernel
theorem dX10_touch_36 : decode cX10_touch 36 = .ok (.iaload, 1) := by decide +kernel
theorem dX10_touch_37 : decode cX10_touch 37 = .ok (.goto 4, 3) := by decide +kernel
theorem dX10_touch_40 : decode cX10_touch 40 = .ok (.iconst (-1), 1) := by decide +kernel
theorem dX10_touch_41 : decode cX10_touch 41 = .ok (.ireturn, 1) := by decide +kernel
theorem dX10_ownedBy_0 : decode cX10_ownedBy 0 = .ok (.iconst 0, 1) := by decide +kernel
theorem dX10_ownedBy_1 : decode cX10_ownedBy 1 = .ok (.istore_n 2, 1) := by decide +kernel
theorem dX10_ownedBy_2 : decode cX10_ownedBy 2 = .ok (.iconst 0, 1) := by decide +kernel
theorem dX10_ownedBy_3 : decode cX10_ownedBy 3 = .ok (.istore_n 3, 1) := by decide +kernel
theorem dX10_ownedBy_4 : decode cX10_ownedBy 4 = .ok (.iload_n 3, 1) := by decide +kernel
theorem dX10_ownedBy_5 : decode cX10_ownedBy 5 = .ok (.aload_n 0, 1) := by decide +kernel
theorem dX10_ownedBy_6 : decode cX10_ownedBy 6 = .ok (.getfield 103, 3) := by decide +kernel
theorem dX10_ownedBy_9 : decode cX10_ownedBy 9 = .ok (.if_icmp .ge 31, 3) := by decide +kernel
theorem dX10_ownedBy_12 : decode cX10_ownedBy 12 = .ok (.aload_n 0, 1) := by decide +kernel
theorem dX10_ownedBy_13 : decode cX10_ownedBy 13 = .ok (.getfield 25, 3) := by decide +kernel
theorem dX10_ownedBy_16 : decode cX10_ownedBy 16 = .ok (.iload_n 3, 1) := by decide +kernel
theorem dX10_ownedBy_17 : decode cX10_ownedBy 17 = .ok (.iaload, 1) := by decide +kernel
theorem dX10_ownedBy_18 : decode cX10_ownedBy 18 = .ok (.iload_n 1, 1) := by decide +kernel
theorem dX10_ownedBy_19 : decode cX10_ownedBy 19 = .ok (.iconst 1, 1) := by decide +kernel
theorem dX10_ownedBy_20 : decode cX10_ownedBy 20 = .ok (.iadd, 1) := by decide +kernel
theorem dX10_ownedBy_21 : decode cX10_ownedBy 21 = .ok (.if_icmp .ne 11, 3) := by decide +kernel
theorem dX10_ownedBy_24 : decode cX10_ownedBy 24 = .ok (.iload_n 2, 1) := by decide +kernel
theorem dX10_ownedBy_25 : decode cX10_ownedBy 25 = .ok (.iconst 1, 1) := by decide +kernel
theorem dX10_ownedBy_26 : decode cX10_ownedBy 26 = .ok (.iload_n 3, 1) := by decide +kernel
theorem dX10_ownedBy_27 : decode cX10_ownedBy 27 = .ok (.ishl, 1) := by decide +kernel
theorem dX10_ownedBy_28 : decode cX10_ownedBy 28 = .ok (.ior, 1) := by decide +kernel
theorem dX10_ownedBy_29 : decode cX10_ownedBy 29 = .ok (.goto 4, 3) := by decide +kernel
theorem dX10_ownedBy_32 : decode cX10_ownedBy 32 = .ok (.iload_n 2, 1) := by decide +kernel
theorem dX10_ownedBy_33 : decode cX10_ownedBy 33 = .ok (.istore_n 2, 1) := by decide +kernel
theorem dX10_ownedBy_34 : decode cX10_ownedBy 34 = .ok (.iinc 3 1, 3) := by decide +kernel
theorem dX10_ownedBy_37 : decode cX10_ownedBy 37 = .ok (.goto (-33), 3) := by decide +kernel
theorem dX10_ownedBy_40 : decode cX10_ownedBy 40 = .ok (.iload_n 2, 1) := by decide +kernel
theorem dX10_ownedBy_41 : decode cX10_ownedBy 41 = .ok (.ireturn, 1) := by decide +kernel
theorem dX10_person_0 : decode cX10_person 0 = .ok (.aload_n 0, 1) := by decide +kernel
theorem dX10_person_1 : decode cX10_person 1 = .ok (.iconst 0, 1) := by decide +kernel
theorem dX10_person_2 : decode cX10_person 2 = .ok (.putfield 99, 3) := by decide +kernel
theorem dX10_person_5 : decode cX10_person 5 = .ok (.aload_n 0, 1) := by decide +kernel
theorem dX10_person_6 : decode cX10_person 6 = .ok (.iload_n 1, 1) := by decide +kernel
theorem dX10_person_7 : decode cX10_person 7 = .ok (.invokevirtual 181, 3) := by decide +kernel
theorem dX10_person_10 : decode cX10_person 10 = .ok (.ifCond .eq 15, 3) := by decide +kernel
theorem dX10_person_13 : decode cX10_person 13 = .ok (.iload_n 2, 1) := by decide +kernel
theorem dX10_person_14 : decode cX10_person 14 = .ok (.i2l, 1) := by decide +kernel
theorem dX10_person_15 : decode cX10_person 15 = .ok (.lconst 0, 1) := by decide +kernel
theorem dX10_person_16 : decode cX10_person 16 = .ok (.ldc2_w 202, 3) := by decide +kernel
theorem dX10_person_19 : decode cX10_person 19 = .ok (.invokestatic 106, 3) := by decide +kernel
theorem dX10_person_22 : decode cX10_person 22 = .ok (.ifCond .ne 5, 3) := by decide +kernel
theorem dX10_person_25 : decode cX10_person 25 = .ok (.iconst (-1), 1) := by decide +kernel
theorem dX10_person_26 : decode cX10_person 26 = .ok (.ireturn, 1) := by decide +kernel
theorem dX10_person_27 : decode cX10_person 27 = .ok (.aload_n 0, 1) := by decide +kernel
theorem dX10_person_28 : decode cX10_person 28 = .ok (.invokevirtual 204, 3) := by decide +kernel
theorem dX10_person_31 : decode cX10_person 31 = .ok (.iload_n 2, 1) := by decide +kernel
theorem dX10_person_32 : decode cX10_person 32 = .ok (.ifCond .ne 12, 3) := by decide +kernel
theorem dX10_person_35 : decode cX10_person 35 = .ok (.aload_n 0, 1) := by decide +kernel
theorem dX10_person_36 : decode cX10_person 36 = .ok (.getfield 16, 3) := by decide +kernel
theorem dX10_person_39 : decode cX10_person 39 = .ok (.iload_n 1, 1) := by decide +kernel
theorem dX10_person_40 : decode cX10_person 40 = .ok (.iaload, 1) := by decide +kernel
theorem dX10_person_41 : decode cX10_person 41 = .ok (.goto 49, 3) := by decide +kernel
theorem dX10_person_44 : decode cX10_person 44 = .ok (.iload_n 2, 1) := by decide +kernel
theorem dX10_person_45 : decode cX10_person 45 = .ok (.iconst 1, 1) := by decide +kernel
theorem dX10_person_46 : decode cX10_person 46 = .ok (.if_icmp .ne 26, 3) := by decide +kernel
theorem dX10_person_49 : decode cX10_person 49 = .ok (.aload_n 0, 1) := by decide +kernel
theorem dX10_person_50 : decode cX10_person 50 = .ok (.getfield 19, 3) := by decide +kernel
theorem dX10_person_53 : decode cX10_person 53 = .ok (.iload_n 1, 1) := by decide +kernel
theorem dX10_person_54 : decode cX10_person 54 = .ok (.iaload, 1) := by decide +kernel
theorem dX10_person_55 : decode cX10_person 55 = .ok (.ifCond .ge 8, 3) := by decide +kernel
theorem dX10_person_58 : decode cX10_person 58 = .ok (.bipush (-4), 2) := by decide +kernel
theorem dX10_person_60 : decode cX10_person 60 = .ok (.goto 30, 3) := by decide +kernel
theorem dX10_person_63 : decode cX10_person 63 = .ok (.aload_n 0, 1) := by decide +kernel
theorem dX10_person_64 : decode cX10_person 64 = .ok (.getfield 19, 3) := by decide +kernel
theorem dX10_person_67 : decode cX10_person 67 = .ok (.iload_n 1, 1) := by decide +kernel
theorem dX10_person_68 : decode cX10_person 68 = .ok (.iaload, 1) := by decide +kernel
theorem dX10_person_69 : decode cX10_person 69 = .ok (.goto 21, 3) := by decide +kernel
theorem dX10_person_72 : decode cX10_person 72 = .ok (.iload_n 2, 1) := by decide +kernel
theorem dX10_person_73 : decode cX10_person 73 = .ok (.iconst 2, 1) := by decide +kernel
theorem dX10_person_74 : decode cX10_person 74 = .ok (.if_icmp .ne 11, 3) := by decide +kernel
theorem dX10_person_77 : decode cX10_person 77 = .ok (.aload_n 0, 1) := by decide +kernel
theorem dX10_person_78 : decode cX10_person 78 = .ok (.iload_n 1, 1) := by decide +kernel
theorem dX10_person_79 : decode cX10_person 79 = .ok (.invokevirtual 207, 3) := by decide +kernel
theorem dX10_person_82 : decode cX10_person 82 = .ok (.goto 8, 3) := by decide +kernel
theorem dX10_person_85 : decode cX10_person 85 = .ok (.aload_n 0, 1) := by decide +kernel
theorem dX10_person_86 : decode cX10_person 86 = .ok (.iload_n 1, 1) := by decide +kernel
theorem dX10_person_87 : decode cX10_person 87 = .ok (.invokevirtual 129, 3) := by decide +kernel
theorem dX10_person_90 : decode cX10_person 90 = .ok (.ireturn, 1) := by decide +kernel
theorem dX10_worth_0 : decode cX10_worth 0 = .ok (.aload_n 0, 1) := by decide +kernel
theorem dX10_worth_1 : decode cX10_worth 1 = .ok (.iconst 0, 1) := by decide +kernel
theorem dX10_worth_2 : decode cX10_worth 2 = .ok (.putfield 99, 3) := by decide +kernel
theorem dX10_worth_5 : decode cX10_worth 5 = .ok (.aload_n 0, 1) := by decide +kernel
theorem dX10_worth_6 : decode cX10_worth 6 = .ok (.iload_n 1, 1) := by decide +kernel
theorem dX10_worth_7 : decode cX10_worth 7 = .ok (.invokevirtual 181, 3) := by decide +kernel
theorem dX10_worth_10 : decode cX10_worth 10 = .ok (.ifCond .eq 25, 3) := by decide +kernel
theorem dX10_worth_13 : decode cX10_worth 13 = .ok (.aload_n 0, 1) := by decide +kernel
theorem dX10_worth_14 : decode cX10_worth 14 = .ok (.iload_n 2, 1) := by decide +kernel
theorem dX10_worth_15 : decode cX10_worth 15 = .ok (.invokevirtual 178, 3) := by decide +kernel
theorem dX10_worth_18 : decode cX10_worth 18 = .ok (.ifCond .eq 17, 3) := by decide +kernel
theorem dX10_worth_21 : decode cX10_worth 21 = .ok (.aload_n 0, 1) := by decide +kernel
theorem dX10_worth_22 : decode cX10_worth 22 = .ok (.getfield 22, 3) := by decide +kernel
theorem dX10_worth_25 : decode cX10_worth 25 = .ok (.bipush 6, 2) := by decide +kernel
theorem dX10_worth_27 : decode cX10_worth 27 = .ok (.iload_n 1, 1) := by decide +kernel
theorem dX10_worth_28 : decode cX10_worth 28 = .ok (.imul, 1) := by decide +kernel
theorem dX10_worth_29 : decode cX10_worth 29 = .ok (.iload_n 2, 1) := by decide +kernel
theorem dX10_worth_30 : decode cX10_worth 30 = .ok (.iadd, 1) := by decide +kernel
theorem dX10_worth_31 : decode cX10_worth 31 = .ok (.iaload, 1) := by decide +kernel
theorem dX10_worth_32 : decode cX10_worth 32 = .ok (.goto 4, 3) := by decide +kernel
theorem dX10_worth_35 : decode cX10_worth 35 = .ok (.iconst (-1), 1) := by decide +kernel
theorem dX10_worth_36 : decode cX10_worth 36 = .ok (.ireturn, 1) := by decide +kernel
theorem dX10_law_0 : decode cX10_law 0 = .ok (.aload_n 0, 1) := by decide +kernel
theorem dX10_law_1 : decode cX10_law 1 = .ok (.iconst 0, 1) := by decide +kernel
theorem dX10_law_2 : decode cX10_law 2 = .ok (.putfield 99, 3) := by decide +kernel
theorem dX10_law_5 : decode cX10_law 5 = .ok (.iload_n 1, 1) := by decide +kernel
theorem dX10_law_6 : decode cX10_law 6 = .ok (.i2l, 1) := by decide +kernel
theorem dX10_law_7 : decode cX10_law 7 = .ok (.lconst 0, 1) := by decide +kernel
theorem dX10_law_8 : decode cX10_law 8 = .ok (.lconst 1, 1) := by decide +kernel
theorem dX10_law_9 : decode cX10_law 9 = .ok (.invokestatic 106, 3) := by decide +kernel
theorem dX10_law_12 : decode cX10_law 12 = .ok (.ifCond .eq 13, 3) := by decide +kernel
theorem dX10_law_15 : decode cX10_law 15 = .ok (.iload_n 2, 1) := by decide +kernel
theorem dX10_law_16 : decode cX10_law 16 = .ok (.i2l, 1) := by decide +kernel
theorem dX10_law_17 : decode cX10_law 17 = .ok (.lconst 0, 1) := by decide +kernel
theorem dX10_law_18 : decode cX10_law 18 = .ok (.lconst 1, 1) := by decide +kernel
theorem dX10_law_19 : decode cX10_law 19 = .ok (.invokestatic 106, 3) := by decide +kernel
theorem dX10_law_22 : decode cX10_law 22 = .ok (.ifCond .ne 5, 3) := by decide +kernel
theorem dX10_law_25 : decode cX10_law 25 = .ok (.iconst (-1), 1) := by decide +kernel
theorem dX10_law_26 : decode cX10_law 26 = .ok (.ireturn, 1) := by decide +kernel
theorem dX10_law_27 : decode cX10_law 27 = .ok (.iload_n 1, 1) := by decide +kernel
theorem dX10_law_28 : decode cX10_law 28 = .ok (.ifCond .ne 10, 3) := by decide +kernel
theorem dX10_law_31 : decode cX10_law 31 = .ok (.aload_n 0, 1) := by decide +kernel
theorem dX10_law_32 : decode cX10_law 32 = .ok (.getfield 113, 3) := by decide +kernel
theorem dX10_law_35 : decode cX10_law 35 = .ok (.goto 7, 3) := by decide +kernel
theorem dX10_law_38 : decode cX10_law 38 = .ok (.aload_n 0, 1) := by decide +kernel
theorem dX10_law_39 : decode cX10_law 39 = .ok (.getfield 116, 3) := by decide +kernel
theorem dX10_law_42 : decode cX10_law 42 = .ok (.istore_n 3, 1) := by decide +kernel
theorem dX10_law_43 : decode cX10_law 43 = .ok (.aload_n 0, 1) := by decide +kernel
theorem dX10_law_44 : decode cX10_law 44 = .ok (.iload_n 1, 1) := by decide +kernel
theorem dX10_law_45 : decode cX10_law 45 = .ok (.ifCond .ne 7, 3) := by decide +kernel
theorem dX10_law_48 : decode cX10_law 48 = .ok (.iload_n 2, 1) := by decide +kernel
theorem dX10_law_49 : decode cX10_law 49 = .ok (.goto 7, 3) := by decide +kernel
theorem dX10_law_52 : decode cX10_law 52 = .ok (.aload_n 0, 1) := by decide +kernel
theorem dX10_law_53 : decode cX10_law 53 = .ok (.getfield 113, 3) := by decide +kernel
theorem dX10_law_56 : decode cX10_law 56 = .ok (.putfield 113, 3) := by decide +kernel
theorem dX10_law_59 : decode cX10_law 59 = .ok (.aload_n 0, 1) := by decide +kernel
theorem dX10_law_60 : decode cX10_law 60 = .ok (.iload_n 1, 1) := by decide +kernel
theorem dX10_law_61 : decode cX10_law 61 = .ok (.iconst 1, 1) := by decide +kernel
theorem dX10_law_62 : decode cX10_law 62 = .ok (.if_icmp .ne 7, 3) := by decide +kernel
theorem dX10_law_65 : decode cX10_law 65 = .ok (.iload_n 2, 1) := by decide +kernel
theorem dX10_law_66 : decode cX10_law 66 = .ok (.goto 7, 3) := by decide +kernel
theorem dX10_law_69 : decode cX10_law 69 = .ok (.aload_n 0, 1) := by decide +kernel
theorem dX10_law_70 : decode cX10_law 70 = .ok (.getfield 116, 3) := by decide +kernel
theorem dX10_law_73 : decode cX10_law 73 = .ok (.putfield 116, 3) := by decide +kernel
theorem dX10_law_76 : decode cX10_law 76 = .ok (.iload_n 3, 1) := by decide +kernel
theorem dX10_law_77 : decode cX10_law 77 = .ok (.ireturn, 1) := by decide +kernel
theorem dX10_owns_0 : decode cX10_owns 0 = .ok (.aload_n 0, 1) := by decide +kernel
theorem dX10_owns_1 : decode cX10_owns 1 = .ok (.iconst 0, 1) := by decide +kernel
theorem dX10_owns_2 : decode cX10_owns 2 = .ok (.putfield 99, 3) := by decide +kernel
theorem dX10_owns_5 : decode cX10_owns 5 = .ok (.aload_n 0, 1) := by decide +kernel
theorem dX10_owns_6 : decode cX10_owns 6 = .ok (.iload_n 1, 1) := by decide +kernel
theorem dX10_owns_7 : decode cX10_owns 7 = .ok (.invokevirtual 181, 3) := by decide +kernel
theorem dX10_owns_10 : decode cX10_owns 10 = .ok (.ifCond .ne 9, 3) := by decide +kernel
theorem dX10_owns_13 : decode cX10_owns 13 = .ok (.iload_n 1, 1) := by decide +kernel
theorem dX10_owns_14 : decode cX10_owns 14 = .ok (.bipush 9, 2) := by decide +kernel
theorem dX10_owns_16 : decode cX10_owns 16 = .ok (.if_icmp .ne 11, 3) := by decide +kernel
theorem dX10_owns_19 : decode cX10_owns 19 = .ok (.aload_n 0, 1) := by decide +kernel
theorem dX10_owns_20 : decode cX10_owns 20 = .ok (.iload_n 2, 1) := by decide +kernel
theorem dX10_owns_21 : decode cX10_owns 21 = .ok (.invokevirtual 178, 3) := by decide +kernel
theorem dX10_owns_24 : decode cX10_owns 24 = .ok (.ifCond .ne 5, 3) := by decide +kernel
theorem dX10_owns_27 : decode cX10_owns 27 = .ok (.iconst (-1), 1) := by decide +kernel
theorem dX10_owns_28 : decode cX10_owns 28 = .ok (.ireturn, 1) := by decide +kernel
theorem dX10_owns_29 : decode cX10_owns 29 = .ok (.aload_n 0, 1) := by decide +kernel
theorem dX10_owns_30 : decode cX10_owns 30 = .ok (.getfield 25, 3) := by decide +kernel
theorem dX10_owns_33 : decode cX10_owns 33 = .ok (.iload_n 2, 1) := by decide +kernel
theorem dX10_owns_34 : decode cX10_owns 34 = .ok (.iaload, 1) := by decide +kernel
theorem dX10_owns_35 : decode cX10_owns 35 = .ok (.istore_n 3, 1) := by decide +kernel
theorem dX10_owns_36 : decode cX10_owns 36 = .ok (.aload_n 0, 1) := by decide +kernel
theorem dX10_owns_37 : decode cX10_owns 37 = .ok (.getfield 25, 3) := by decide +kernel
theorem dX10_owns_40 : decode cX10_owns 40 = .ok (.iload_n 2, 1) := by decide +kernel
theorem dX10_owns_41 : decode cX10_owns 41 = .ok (.iload_n 1, 1) := by decide +kernel
theorem dX10_owns_42 : decode cX10_owns 42 = .ok (.bipush 9, 2) := by decide +kernel
theorem dX10_owns_44 : decode cX10_owns 44 = .ok (.if_icmp .ne 7, 3) := by decide +kernel
theorem dX10_owns_47 : decode cX10_owns 47 = .ok (.iconst 0, 1) := by decide +kernel
theorem dX10_owns_48 : decode cX10_owns 48 = .ok (.goto 6, 3) := by decide +kernel
theorem dX10_owns_51 : decode cX10_owns 51 = .ok (.iload_n 1, 1) := by decide +kernel
theorem dX10_owns_52 : decode cX10_owns 52 = .ok (.iconst 1, 1) := by decide +kernel
theorem dX10_owns_53 : decode cX10_owns 53 = .ok (.iadd, 1) := by decide +kernel
theorem dX10_owns_54 : decode cX10_owns 54 = .ok (.iastore, 1) := by decide +kernel
theorem dX10_owns_55 : decode cX10_owns 55 = .ok (.iload_n 3, 1) := by decide +kernel
theorem dX10_owns_56 : decode cX10_owns 56 = .ok (.ifCond .ne 8, 3) := by decide +kernel
theorem dX10_owns_59 : decode cX10_owns 59 = .ok (.bipush 9, 2) := by decide +kernel
theorem dX10_owns_61 : decode cX10_owns 61 = .ok (.goto 6, 3) := by decide +kernel
theorem dX10_owns_64 : decode cX10_owns 64 = .ok (.iload_n 3, 1) := by decide +kernel
theorem dX10_owns_65 : decode cX10_owns 65 = .ok (.iconst 1, 1) := by decide +kernel
theorem dX10_owns_66 : decode cX10_owns 66 = .ok (.isub, 1) := by decide +kernel
theorem dX10_owns_67 : decode cX10_owns 67 = .ok (.ireturn, 1) := by decide +kernel
theorem dX10_lawful_0 : decode cX10_lawful 0 = .ok (.aload_n 0, 1) := by decide +kernel
theorem dX10_lawful_1 : decode cX10_lawful 1 = .ok (.iconst 0, 1) := by decide +kernel
theorem dX10_lawful_2 : decode cX10_lawful 2 = .ok (.putfield 99, 3) := by decide +kernel
theorem dX10_lawful_5 : decode cX10_lawful 5 = .ok (.aload_n 0, 1) := by decide +kernel
theorem dX10_lawful_6 : decode cX10_lawful 6 = .ok (.invokevirtual 204, 3) := by decide +kernel
theorem dX10_lawful_9 : decode cX10_lawful 9 = .ok (.aload_n 0, 1) := by decide +kernel
theorem dX10_lawful_10 : decode cX10_lawful 10 = .ok (.invokevirtual 210, 3) := by decide +kernel
theorem dX10_lawful_13 : decode cX10_lawful 13 = .ok (.ifCond .eq 7, 3) := by decide +kernel
theorem dX10_lawful_16 : decode cX10_lawful 16 = .ok (.iconst 1, 1) := by decide +kernel
theorem dX10_lawful_17 : decode cX10_lawful 17 = .ok (.goto 4, 3) := by decide +kernel
theorem dX10_lawful_20 : decode cX10_lawful 20 = .ok (.iconst 0, 1) := by decide +kernel
theorem dX10_lawful_21 : decode cX10_lawful 21 = .ok (.ireturn, 1) := by decide +kernel
theorem dX10_firstUnlawful_0 : decode cX10_firstUnlawful 0 = .ok (.aload_n 0, 1) := by decide +kernel
theorem dX10_firstUnlawful_1 : decode cX10_firstUnlawful 1 = .ok (.iconst 0, 1) := by decide +kernel
theorem dX10_firstUnlawful_2 : decode cX10_firstUnlawful 2 = .ok (.putfield 99, 3) := by decide +kernel
theorem dX10_firstUnlawful_5 : decode cX10_firstUnlawful 5 = .ok (.aload_n 0, 1) := by decide +kernel
theorem dX10_firstUnlawful_6 : decode cX10_firstUnlawful 6 = .ok (.invokevirtual 204, 3) := by decide +kernel
theorem dX10_firstUnlawful_9 : decode cX10_firstUnlawful 9 = .ok (.iconst 0, 1) := by decide +kernel
theorem dX10_firstUnlawful_10 : decode cX10_firstUnlawful 10 = .ok (.istore_n 1, 1) := by decide +kernel
theorem dX10_firstUnlawful_11 : decode cX10_firstUnlawful 11 = .ok (.iload_n 1, 1) := by decide +kernel
theorem dX10_firstUnlawful_12 : decode cX10_firstUnlawful 12 = .ok (.aload_n 0, 1) := by decide +kernel
theorem dX10_firstUnlawful_13 : decode cX10_firstUnlawful 13 = .ok (.getfield 103, 3) := by decide +kernel
theorem dX10_firstUnlawful_16 : decode cX10_firstUnlawful 16 = .ok (.if_icmp .ge 43, 3) := by decide +kernel
theorem dX10_firstUnlawful_19 : decode cX10_firstUnlawful 19 = .ok (.iload_n 1, 1) := by decide +kernel
theorem dX10_firstUnlawful_20 : decode cX10_firstUnlawful 20 = .ok (.iconst 1, 1) := by decide +kernel
theorem dX10_firstUnlawful_21 : decode cX10_firstUnlawful 21 = .ok (.iadd, 1) := by decide +kernel
theorem dX10_firstUnlawful_22 : decode cX10_firstUnlawful 22 = .ok (.istore_n 2, 1) := by decide +kernel
theorem dX10_firstUnlawful_23 : decode cX10_firstUnlawful 23 = .ok (.iload_n 2, 1) := by decide +kernel
theorem dX10_firstUnlawful_24 : decode cX10_firstUnlawful 24 = .ok (.aload_n 0, 1) := by decide +kernel
theorem dX10_firstUnlawful_25 : decode cX10_firstUnlawful 25 = .ok (.getfield 103, 3) := by decide +kernel
theorem dX10_firstUnlawful_28 : decode cX10_firstUnlawful 28 = .ok (.if_icmp .ge 25, 3) := by decide +kernel
theorem dX10_firstUnlawful_31 : decode cX10_firstUnlawful 31 = .ok (.aload_n 0, 1) := by decide +kernel
theorem dX10_firstUnlawful_32 : decode cX10_firstUnlawful 32 = .ok (.iload_n 1, 1) := by decide +kernel
theorem dX10_firstUnlawful_33 : decode cX10_firstUnlawful 33 = .ok (.iload_n 2, 1) := by decide +kernel
theorem dX10_firstUnlawful_34 : decode cX10_firstUnlawful 34 = .ok (.invokevirtual 126, 3) := by decide +kernel
theorem dX10_firstUnlawful_37 : decode cX10_firstUnlawful 37 = .ok (.ifCond .ne 10, 3) := by decide +kernel
theorem dX10_firstUnlawful_40 : decode cX10_firstUnlawful 40 = .ok (.bipush 10, 2) := by decide +kernel
theorem dX10_firstUnlawful_42 : decode cX10_firstUnlawful 42 = .ok (.iload_n 1, 1) := by decide +kernel
theorem dX10_firstUnlawful_43 : decode cX10_firstUnlawful 43 = .ok (.imul, 1) := by decide +kernel
theorem dX10_firstUnlawful_44 : decode cX10_firstUnlawful 44 = .ok (.iload_n 2, 1) := by decide +kernel
theorem dX10_firstUnlawful_45 : decode cX10_firstUnlawful 45 = .ok (.iadd, 1) := by decide +kernel
theorem dX10_firstUnlawful_46 : decode cX10_firstUnlawful 46 = .ok (.ireturn, 1) := by decide +kernel
theorem dX10_firstUnlawful_47 : decode cX10_firstUnlawful 47 = .ok (.iinc 2 1, 3) := by decide +kernel
theorem dX10_firstUnlawful_50 : decode cX10_firstUnlawful 50 = .ok (.goto (-27), 3) := by decide +kernel
theorem dX10_firstUnlawful_53 : decode cX10_firstUnlawful 53 = .ok (.iinc 1 1, 3) := by decide +kernel
theorem dX10_firstUnlawful_56 : decode cX10_firstUnlawful 56 = .ok (.goto (-45), 3) := by decide +kernel
theorem dX10_firstUnlawful_59 : decode cX10_firstUnlawful 59 = .ok (.bipush (-4), 2) := by decide +kernel
theorem dX10_firstUnlawful_61 : decode cX10_firstUnlawful 61 = .ok (.ireturn, 1) := by decide +kernel
theorem dX10_wrongMove_0 : decode cX10_wrongMove 0 = .ok (.iload_n 1, 1) := by decide +kernel
theorem dX10_wrongMove_1 : decode cX10_wrongMove 1 = .ok (.i2l, 1) := by decide +kernel
theorem dX10_wrongMove_2 : decode cX10_wrongMove 2 = .ok (.lconst 0, 1) := by decide +kernel
theorem dX10_wrongMove_3 : decode cX10_wrongMove 3 = .ok (.ldc2_w 214, 3) := by decide +kernel
theorem dX10_wrongMove_6 : decode cX10_wrongMove 6 = .ok (.invokestatic 106, 3) := by decide +kernel
theorem dX10_wrongMove_9 : decode cX10_wrongMove 9 = .ok (.ifCond .ne 7, 3) := by decide +kernel
theorem dX10_wrongMove_12 : decode cX10_wrongMove 12 = .ok (.iconst (-1), 1) := by decide +kernel
theorem dX10_wrongMove_13 : decode cX10_wrongMove 13 = .ok (.goto 33, 3) := by decide +kernel
theorem dX10_wrongMove_16 : decode cX10_wrongMove 16 = .ok (.aload_n 0, 1) := by decide +kernel
theorem dX10_wrongMove_17 : decode cX10_wrongMove 17 = .ok (.getfield 77, 3) := by decide +kernel
theorem dX10_wrongMove_20 : decode cX10_wrongMove 20 = .ok (.iload_n 1, 1) := by decide +kernel
theorem dX10_wrongMove_21 : decode cX10_wrongMove 21 = .ok (.iaload, 1) := by decide +kernel
theorem dX10_wrongMove_22 : decode cX10_wrongMove 22 = .ok (.ifCond .ne 8, 3) := by decide +kernel
theorem dX10_wrongMove_25 : decode cX10_wrongMove 25 = .ok (.bipush (-11), 2) := by decide +kernel
theorem dX10_wrongMove_27 : decode cX10_wrongMove 27 = .ok (.goto 19, 3) := by decide +kernel
theorem dX10_wrongMove_30 : decode cX10_wrongMove 30 = .ok (.aload_n 0, 1) := by decide +kernel
theorem dX10_wrongMove_31 : decode cX10_wrongMove 31 = .ok (.getfield 77, 3) := by decide +kernel
theorem dX10_wrongMove_34 : decode cX10_wrongMove 34 = .ok (.iload_n 1, 1) := by decide +kernel
theorem dX10_wrongMove_35 : decode cX10_wrongMove 35 = .ok (.iaload, 1) := by decide +kernel
theorem dX10_wrongMove_36 : decode cX10_wrongMove 36 = .ok (.iconst 1, 1) := by decide +kernel
theorem dX10_wrongMove_37 : decode cX10_wrongMove 37 = .ok (.if_icmp .eq 8, 3) := by decide +kernel
theorem dX10_wrongMove_40 : decode cX10_wrongMove 40 = .ok (.bipush (-12), 2) := by decide +kernel
theorem dX10_wrongMove_42 : decode cX10_wrongMove 42 = .ok (.goto 4, 3) := by decide +kernel
theorem dX10_wrongMove_45 : decode cX10_wrongMove 45 = .ok (.iconst 0, 1) := by decide +kernel
theorem dX10_wrongMove_46 : decode cX10_wrongMove 46 = .ok (.ireturn, 1) := by decide +kernel
theorem dX10_openMove_0 : decode cX10_openMove 0 = .ok (.aload_n 0, 1) := by decide +kernel
theorem dX10_openMove_1 : decode cX10_openMove 1 = .ok (.aload_n 0, 1) := by decide +kernel
theorem dX10_openMove_2 : decode cX10_openMove 2 = .ok (.getfield 80, 3) := by decide +kernel
theorem dX10_openMove_5 : decode cX10_openMove 5 = .ok (.iload_n 1, 1) := by decide +kernel
theorem dX10_openMove_6 : decode cX10_openMove 6 = .ok (.iaload, 1) := by decide +kernel
theorem dX10_openMove_7 : decode cX10_openMove 7 = .ok (.putfield 216, 3) := by decide +kernel
theorem dX10_openMove_10 : decode cX10_openMove 10 = .ok (.aload_n 0, 1) := by decide +kernel
theorem dX10_openMove_11 : decode cX10_openMove 11 = .ok (.aload_n 0, 1) := by decide +kernel
theorem dX10_openMove_12 : decode cX10_openMove 12 = .ok (.getfield 83, 3) := by decide +kernel
theorem dX10_openMove_15 : decode cX10_openMove 15 = .ok (.iload_n 1, 1) := by decide +kernel
theorem dX10_openMove_16 : decode cX10_openMove 16 = .ok (.iaload, 1) := by decide +kernel
theorem dX10_openMove_17 : decode cX10_openMove 17 = .ok (.sipush 1000, 3) := by decide +kernel
theorem dX10_openMove_20 : decode cX10_openMove 20 = .ok (.idiv, 1) := by decide +kernel
theorem dX10_openMove_21 : decode cX10_openMove 21 = .ok (.putfield 219, 3) := by decide +kernel
theorem dX10_openMove_24 : decode cX10_openMove 24 = .ok (.aload_n 0, 1) := by decide +kernel
theorem dX10_openMove_25 : decode cX10_openMove 25 = .ok (.aload_n 0, 1) := by decide +kernel
theorem dX10_openMove_26 : decode cX10_openMove 26 = .ok (.getfield 83, 3) := by decide +kernel
theorem dX10_openMove_29 : decode cX10_openMove 29 = .ok (.iload_n 1, 1) := by decide +kernel
theorem dX10_openMove_30 : decode cX10_openMove 30 = .ok (.iaload, 1) := by decide +kernel
theorem dX10_openMove_31 : decode cX10_openMove 31 = .ok (.bipush 100, 2) := by decide +kernel
theorem dX10_openMove_33 : decode cX10_openMove 33 = .ok (.idiv, 1) := by decide +kernel
theorem dX10_openMove_34 : decode cX10_openMove 34 = .ok (.bipush 10, 2) := by decide +kernel
theorem dX10_openMove_36 : decode cX10_openMove 36 = .ok (.irem, 1) := by decide +kernel
theorem dX10_openMove_37 : decode cX10_openMove 37 = .ok (.putfield 222, 3) := by decide +kernel
theorem dX10_openMove_40 : decode cX10_openMove 40 = .ok (.aload_n 0, 1) := by decide +kernel
theorem dX10_openMove_41 : decode cX10_openMove 41 = .ok (.aload_n 0, 1) := by decide +kernel
theorem dX10_openMove_42 : decode cX10_openMove 42 = .ok (.getfield 83, 3) := by decide +kernel
theorem dX10_openMove_45 : decode cX10_openMove 45 = .ok (.iload_n 1, 1) := by decide +kernel
theorem dX10_openMove_46 : decode cX10_openMove 46 = .ok (.iaload, 1) := by decide +kernel
theorem dX10_openMove_47 : decode cX10_openMove 47 = .ok (.bipush 10, 2) := by decide +kernel
theorem dX10_openMove_49 : decode cX10_openMove 49 = .ok (.idiv, 1) := by decide +kernel
theorem dX10_openMove_50 : decode cX10_openMove 50 = .ok (.bipush 10, 2) := by decide +kernel
theorem dX10_openMove_52 : decode cX10_openMove 52 = .ok (.irem, 1) := by decide +kernel
theorem dX10_openMove_53 : decode cX10_openMove 53 = .ok (.putfield 225, 3) := by decide +kernel
theorem dX10_openMove_56 : decode cX10_openMove 56 = .ok (.aload_n 0, 1) := by decide +kernel
theorem dX10_openMove_57 : decode cX10_openMove 57 = .ok (.aload_n 0, 1) := by decide +kernel
theorem dX10_openMove_58 : decode cX10_openMove 58 = .ok (.getfield 83, 3) := by decide +kernel
theorem dX10_openMove_61 : decode cX10_openMove 61 = .ok (.iload_n 1, 1) := by decide +kernel
theorem dX10_openMove_62 : decode cX10_openMove 62 = .ok (.iaload, 1) := by decide +kernel
theorem dX10_openMove_63 : decode cX10_openMove 63 = .ok (.bipush 10, 2) := by decide +kernel
theorem dX10_openMove_65 : decode cX10_openMove 65 = .ok (.irem, 1) := by decide +kernel
theorem dX10_openMove_66 : decode cX10_openMove 66 = .ok (.putfield 228, 3) := by decide +kernel
theorem dX10_openMove_69 : decode cX10_openMove 69 = .ok (.aload_n 0, 1) := by decide +kernel
theorem dX10_openMove_70 : decode cX10_openMove 70 = .ok (.getfield 216, 3) := by decide +kernel
theorem dX10_openMove_73 : decode cX10_openMove 73 = .ok (.iconst 2, 1) := by decide +kernel
theorem dX10_openMove_74 : decode cX10_openMove 74 = .ok (.if_icmp .eq 19, 3) := by decide +kernel
theorem dX10_openMove_77 : decode cX10_openMove 77 = .ok (.aload_n 0, 1) := by decide +kernel
theorem dX10_openMove_78 : decode cX10_openMove 78 = .ok (.getfield 216, 3) := by decide +kernel
theorem dX10_openMove_81 : decode cX10_openMove 81 = .ok (.iconst 3, 1) := by decide +kernel
theorem dX10_openMove_82 : decode cX10_openMove 82 = .ok (.if_icmp .eq 11, 3) := by decide +kernel
theorem dX10_openMove_85 : decode cX10_openMove 85 = .ok (.aload_n 0, 1) := by decide +kernel
theorem dX10_openMove_86 : decode cX10_openMove 86 = .ok (.getfield 216, 3) := by decide +kernel
theorem dX10_openMove_89 : decode cX10_openMove 89 = .ok (.iconst 5, 1) := by decide +kernel
theorem dX10_openMove_90 : decode cX10_openMove 90 = .ok (.if_icmp .ne 7, 3) := by decide +kernel
theorem dX10_openMove_93 : decode cX10_openMove 93 = .ok (.iconst 1, 1) := by decide +kernel
theorem dX10_openMove_94 : decode cX10_openMove 94 = .ok (.goto 4, 3) := by decide +kernel
theorem dX10_openMove_97 : decode cX10_openMove 97 = .ok (.iconst 0, 1) := by decide +kernel
theorem dX10_openMove_98 : decode cX10_openMove 98 = .ok (.istore_n 2, 1) := by decide +kernel
theorem dX10_openMove_99 : decode cX10_openMove 99 = .ok (.aload_n 0, 1) := by decide +kernel
theorem dX10_openMove_100 : decode cX10_openMove 100 = .ok (.aload_n 0, 1) := by decide +kernel
theorem dX10_openMove_101 : decode cX10_openMove 101 = .ok (.getfield 219, 3) := by decide +kernel
theorem dX10_openMove_104 : decode cX10_openMove 104 = .ok (.invokevirtual 181, 3) := by decide +kernel
theorem dX10_openMove_107 : decode cX10_openMove 107 = .ok (.ifCond .eq 52, 3) := by decide +kernel
theorem dX10_openMove_110 : decode cX10_openMove 110 = .ok (.aload_n 0, 1) := by decide +kernel
theorem dX10_openMove_111 : decode cX10_openMove 111 = .ok (.aload_n 0, 1) := by decide +kernel
theorem dX10_openMove_112 : decode cX10_openMove 112 = .ok (.getfield 222, 3) := by decide +kernel
theorem dX10_openMove_115 : decode cX10_openMove 115 = .ok (.invokevirtual 178, 3) := by decide +kernel
theorem dX10_openMove_118 : decode cX10_openMove 118 = .ok (.ifCond .eq 41, 3) := by decide +kernel
theorem dX10_openMove_121 : decode cX10_openMove 121 = .ok (.iload_n 2, 1) := by decide +kernel
theorem dX10_openMove_122 : decode cX10_openMove 122 = .ok (.ifCond .eq 14, 3) := by decide +kernel
theorem dX10_openMove_125 : decode cX10_openMove 125 = .ok (.aload_n 0, 1) := by decide +kernel
theorem dX10_openMove_126 : decode cX10_openMove 126 = .ok (.aload_n 0, 1) := by decide +kernel
theorem dX10_openMove_127 : decode cX10_openMove 127 = .ok (.getfield 225, 3) := by decide +kernel
theorem dX10_openMove_130 : decode cX10_openMove 130 = .ok (.invokevirtual 178, 3) := by decide +kernel
theorem dX10_openMove_133 : decode cX10_openMove 133 = .ok (.ifCond .eq 26, 3) := by decide +kernel
theorem dX10_openMove_136 : decode cX10_openMove 136 = .ok (.aload_n 0, 1) := by decide +kernel
theorem dX10_openMove_137 : decode cX10_openMove 137 = .ok (.getfield 216, 3) := by decide +kernel
theorem dX10_openMove_140 : decode cX10_openMove 140 = .ok (.iconst 3, 1) := by decide +kernel
theorem dX10_openMove_141 : decode cX10_openMove 141 = .ok (.if_icmp .ne 14, 3) := by decide +kernel
theorem dX10_openMove_144 : decode cX10_openMove 144 = .ok (.aload_n 0, 1) := by decide +kernel
theorem dX10_openMove_145 : decode cX10_openMove 145 = .ok (.aload_n 0, 1) := by decide +kernel
theorem dX10_openMove_146 : decode cX10_openMove 146 = .ok (.getfield 228, 3) := by decide +kernel
theorem dX10_openMove_149 : decode cX10_openMove 149 = .ok (.invokevirtual 178, 3) := by decide +kernel
theorem dX10_openMove_152 : decode cX10_openMove 152 = .ok (.ifCond .eq 7, 3) := by decide +kernel
theorem dX10_openMove_155 : decode cX10_openMove 155 = .ok (.iconst 1, 1) := by decide +kernel
theorem dX10_openMove_156 : decode cX10_openMove 156 = .ok (.goto 4, 3) := by decide +kernel
theorem dX10_openMove_159 : decode cX10_openMove 159 = .ok (.iconst 0, 1) := by decide +kernel
theorem dX10_openMove_160 : decode cX10_openMove 160 = .ok (.ireturn, 1) := by decide +kernel
theorem dX10_isAsTold_0 : decode cX10_isAsTold 0 = .ok (.aload_n 0, 1) := by decide +kernel
theorem dX10_isAsTold_1 : decode cX10_isAsTold 1 = .ok (.getfield 216, 3) := by decide +kernel
theorem dX10_isAsTold_4 : decode cX10_isAsTold 4 = .ok (.iconst 1, 1) := by decide +kernel
theorem dX10_isAsTold_5 : decode cX10_isAsTold 5 = .ok (.if_icmp .eq 11, 3) := by decide +kernel
theorem dX10_isAsTold_8 : decode cX10_isAsTold 8 = .ok (.aload_n 0, 1) := by decide +kernel
theorem dX10_isAsTold_9 : decode cX10_isAsTold 9 = .ok (.getfield 216, 3) := by decide +kernel
theorem dX10_isAsTold_12 : decode cX10_isAsTold 12 = .ok (.iconst 4, 1) := by decide +kernel
theorem dX10_isAsTold_13 : decode cX10_isAsTold 13 = .ok (.if_icmp .ne 27, 3) := by decide +kernel
theorem dX10_isAsTold_16 : decode cX10_isAsTold 16 = .ok (.aload_n 0, 1) := by decide +kernel
theorem dX10_isAsTold_17 : decode cX10_isAsTold 17 = .ok (.getfield 25, 3) := by decide +kernel
theorem dX10_isAsTold_20 : decode cX10_isAsTold 20 = .ok (.aload_n 0, 1) := by decide +kernel
theorem dX10_isAsTold_21 : decode cX10_isAsTold 21 = .ok (.getfield 222, 3) := by decide +kernel
theorem dX10_isAsTold_24 : decode cX10_isAsTold 24 = .ok (.iaload, 1) := by decide +kernel
theorem dX10_isAsTold_25 : decode cX10_isAsTold 25 = .ok (.aload_n 0, 1) := by decide +kernel
theorem dX10_isAsTold_26 : decode cX10_isAsTold 26 = .ok (.getfield 219, 3) := by decide +kernel
theorem dX10_isAsTold_29 : decode cX10_isAsTold 29 = .ok (.iconst 1, 1) := by decide +kernel
theorem dX10_isAsTold_30 : decode cX10_isAsTold 30 = .ok (.iadd, 1) := by decide +kernel
theorem dX10_isAsTold_31 : decode cX10_isAsTold 31 = .ok (.if_icmp .eq 7, 3) := by decide +kernel
theorem dX10_isAsTold_34 : decode cX10_isAsTold 34 = .ok (.iconst 1, 1) := by decide +kernel
theorem dX10_isAsTold_35 : decode cX10_isAsTold 35 = .ok (.goto 4, 3) := by decide +kernel
theorem dX10_isAsTold_38 : decode cX10_isAsTold 38 = .ok (.iconst 0, 1) := by decide +kernel
theorem dX10_isAsTold_39 : decode cX10_isAsTold 39 = .ok (.ireturn, 1) := by decide +kernel
theorem dX10_isAsTold_40 : decode cX10_isAsTold 40 = .ok (.aload_n 0, 1) := by decide +kernel
theorem dX10_isAsTold_41 : decode cX10_isAsTold 41 = .ok (.getfield 216, 3) := by decide +kernel
theorem dX10_isAsTold_44 : decode cX10_isAsTold 44 = .ok (.iconst 2, 1) := by decide +kernel
theorem dX10_isAsTold_45 : decode cX10_isAsTold 45 = .ok (.if_icmp .ne 20, 3) := by decide +kernel
theorem dX10_isAsTold_48 : decode cX10_isAsTold 48 = .ok (.aload_n 0, 1) := by decide +kernel
theorem dX10_isAsTold_49 : decode cX10_isAsTold 49 = .ok (.getfield 222, 3) := by decide +kernel
theorem dX10_isAsTold_52 : decode cX10_isAsTold 52 = .ok (.aload_n 0, 1) := by decide +kernel
theorem dX10_isAsTold_53 : decode cX10_isAsTold 53 = .ok (.getfield 225, 3) := by decide +kernel
theorem dX10_isAsTold_56 : decode cX10_isAsTold 56 = .ok (.if_icmp .eq 7, 3) := by decide +kernel
theorem dX10_isAsTold_59 : decode cX10_isAsTold 59 = .ok (.iconst 1, 1) := by decide +kernel
theorem dX10_isAsTold_60 : decode cX10_isAsTold 60 = .ok (.goto 4, 3) := by decide +kernel
theorem dX10_isAsTold_63 : decode cX10_isAsTold 63 = .ok (.iconst 0, 1) := by decide +kernel
theorem dX10_isAsTold_64 : decode cX10_isAsTold 64 = .ok (.ireturn, 1) := by decide +kernel
theorem dX10_isAsTold_65 : decode cX10_isAsTold 65 = .ok (.aload_n 0, 1) := by decide +kernel
theorem dX10_isAsTold_66 : decode cX10_isAsTold 66 = .ok (.getfield 216, 3) := by decide +kernel
theorem dX10_isAsTold_69 : decode cX10_isAsTold 69 = .ok (.iconst 3, 1) := by decide +kernel
theorem dX10_isAsTold_70 : decode cX10_isAsTold 70 = .ok (.if_icmp .ne 42, 3) := by decide +kernel
theorem dX10_isAsTold_73 : decode cX10_isAsTold 73 = .ok (.aload_n 0, 1) := by decide +kernel
theorem dX10_isAsTold_74 : decode cX10_isAsTold 74 = .ok (.getfield 222, 3) := by decide +kernel
theorem dX10_isAsTold_77 : decode cX10_isAsTold 77 = .ok (.aload_n 0, 1) := by decide +kernel
theorem dX10_isAsTold_78 : decode cX10_isAsTold 78 = .ok (.getfield 225, 3) := by decide +kernel
theorem dX10_isAsTold_81 : decode cX10_isAsTold 81 = .ok (.if_icmp .eq 29, 3) := by decide +kernel
theorem dX10_isAsTold_84 : decode cX10_isAsTold 84 = .ok (.aload_n 0, 1) := by decide +kernel
theorem dX10_isAsTold_85 : decode cX10_isAsTold 85 = .ok (.getfield 222, 3) := by decide +kernel
theorem dX10_isAsTold_88 : decode cX10_isAsTold 88 = .ok (.aload_n 0, 1) := by decide +kernel
theorem dX10_isAsTold_89 : decode cX10_isAsTold 89 = .ok (.getfield 228, 3) := by decide +kernel
theorem dX10_isAsTold_92 : decode cX10_isAsTold 92 = .ok (.if_icmp .eq 18, 3) := by decide +kernel
theorem dX10_isAsTold_95 : decode cX10_isAsTold 95 = .ok (.aload_n 0, 1) := by decide +kernel
theorem dX10_isAsTold_96 : decode cX10_isAsTold 96 = .ok (.getfield 225, 3) := by decide +kernel
theorem dX10_isAsTold_99 : decode cX10_isAsTold 99 = .ok (.aload_n 0, 1) := by decide +kernel
theorem dX10_isAsTold_100 : decode cX10_isAsTold 100 = .ok (.getfield 228, 3) := by decide +kernel
theorem dX10_isAsTold_103 : decode cX10_isAsTold 103 = .ok (.if_icmp .eq 7, 3) := by decide +kernel
theorem dX10_isAsTold_106 : decode cX10_isAsTold 106 = .ok (.iconst 1, 1) := by decide +kernel
theorem dX10_isAsTold_107 : decode cX10_isAsTold 107 = .ok (.goto 4, 3) := by decide +kernel
theorem dX10_isAsTold_110 : decode cX10_isAsTold 110 = .ok (.iconst 0, 1) := by decide +kernel
theorem dX10_isAsTold_111 : decode cX10_isAsTold 111 = .ok (.ireturn, 1) := by decide +kernel
theorem dX10_isAsTold_112 : decode cX10_isAsTold 112 = .ok (.aload_n 0, 1) := by decide +kernel
theorem dX10_isAsTold_113 : decode cX10_isAsTold 113 = .ok (.getfield 216, 3) := by decide +kernel
theorem dX10_isAsTold_116 : decode cX10_isAsTold 116 = .ok (.iconst 5, 1) := by decide +kernel
theorem dX10_isAsTold_117 : decode cX10_isAsTold 117 = .ok (.if_icmp .ne 41, 3) := by decide +kernel
theorem dX10_isAsTold_120 : decode cX10_isAsTold 120 = .ok (.aload_n 0, 1) := by decide +kernel
theorem dX10_isAsTold_121 : decode cX10_isAsTold 121 = .ok (.getfield 222, 3) := by decide +kernel
theorem dX10_isAsTold_124 : decode cX10_isAsTold 124 = .ok (.aload_n 0, 1) := by decide +kernel
theorem dX10_isAsTold_125 : decode cX10_isAsTold 125 = .ok (.getfield 225, 3) := by decide +kernel
theorem dX10_isAsTold_128 : decode cX10_isAsTold 128 = .ok (.if_icmp .eq 28, 3) := by decide +kernel
theorem dX10_isAsTold_131 : decode cX10_isAsTold 131 = .ok (.aload_n 0, 1) := by decide +kernel
theorem dX10_isAsTold_132 : decode cX10_isAsTold 132 = .ok (.getfield 13, 3) := by decide +kernel
theorem dX10_isAsTold_135 : decode cX10_isAsTold 135 = .ok (.bipush 6, 2) := by decide +kernel
theorem dX10_isAsTold_137 : decode cX10_isAsTold 137 = .ok (.aload_n 0, 1) := by decide +kernel
theorem dX10_isAsTold_138 : decode cX10_isAsTold 138 = .ok (.getfield 222, 3) := by decide +kernel
theorem dX10_isAsTold_141 : decode cX10_isAsTold 141 = .ok (.imul, 1) := by decide +kernel
theorem dX10_isAsTold_142 : decode cX10_isAsTold 142 = .ok (.aload_n 0, 1) := by decide +kernel
theorem dX10_isAsTold_143 : decode cX10_isAsTold 143 = .ok (.getfield 225, 3) := by decide +kernel
theorem dX10_isAsTold_146 : decode cX10_isAsTold 146 = .ok (.iadd, 1) := by decide +kernel
theorem dX10_isAsTold_147 : decode cX10_isAsTold 147 = .ok (.iaload, 1) := by decide +kernel
theorem dX10_isAsTold_148 : decode cX10_isAsTold 148 = .ok (.iconst 1, 1) := by decide +kernel
theorem dX10_isAsTold_149 : decode cX10_isAsTold 149 = .ok (.if_icmp .ne 7, 3) := by decide +kernel
theorem dX10_isAsTold_152 : decode cX10_isAsTold 152 = .ok (.iconst 1, 1) := by decide +kernel
theorem dX10_isAsTold_153 : decode cX10_isAsTold 153 = .ok (.goto 4, 3) := by decide +kernel
theorem dX10_isAsTold_156 : decode cX10_isAsTold 156 = .ok (.iconst 0, 1) := by decide +kernel
theorem dX10_isAsTold_157 : decode cX10_isAsTold 157 = .ok (.ireturn, 1) := by decide +kernel
theorem dX10_isAsTold_158 : decode cX10_isAsTold 158 = .ok (.aload_n 0, 1) := by decide +kernel
theorem dX10_isAsTold_159 : decode cX10_isAsTold 159 = .ok (.getfield 216, 3) := by decide +kernel
theorem dX10_isAsTold_162 : decode cX10_isAsTold 162 = .ok (.bipush 7, 2) := by decide +kernel
theorem dX10_isAsTold_164 : decode cX10_isAsTold 164 = .ok (.if_icmp .ne 21, 3) := by decide +kernel
theorem dX10_isAsTold_167 : decode cX10_isAsTold 167 = .ok (.aload_n 0, 1) := by decide +kernel
theorem dX10_isAsTold_168 : decode cX10_isAsTold 168 = .ok (.getfield 25, 3) := by decide +kernel
theorem dX10_isAsTold_171 : decode cX10_isAsTold 171 = .ok (.aload_n 0, 1) := by decide +kernel
theorem dX10_isAsTold_172 : decode cX10_isAsTold 172 = .ok (.getfield 222, 3) := by decide +kernel
theorem dX10_isAsTold_175 : decode cX10_isAsTold 175 = .ok (.iaload, 1) := by decide +kernel
theorem dX10_isAsTold_176 : decode cX10_isAsTold 176 = .ok (.aload_n 0, 1) := by decide +kernel
theorem dX10_isAsTold_177 : decode cX10_isAsTold 177 = .ok (.getfield 219, 3) := by decide +kernel
theorem dX10_isAsTold_180 : decode cX10_isAsTold 180 = .ok (.iconst 1, 1) := by decide +kernel
theorem dX10_isAsTold_181 : decode cX10_isAsTold 181 = .ok (.iadd, 1) := by decide +kernel
theorem dX10_isAsTold_182 : decode cX10_isAsTold 182 = .ok (.if_icmp .ne 7, 3) := by decide +kernel
theorem dX10_isAsTold_185 : decode cX10_isAsTold 185 = .ok (.iconst 1, 1) := by decide +kernel
theorem dX10_isAsTold_186 : decode cX10_isAsTold 186 = .ok (.goto 4, 3) := by decide +kernel
theorem dX10_isAsTold_189 : decode cX10_isAsTold 189 = .ok (.iconst 0, 1) := by decide +kernel
theorem dX10_isAsTold_190 : decode cX10_isAsTold 190 = .ok (.ireturn, 1) := by decide +kernel
theorem dX10_changeOwners_0 : decode cX10_changeOwners 0 = .ok (.aload_n 0, 1) := by decide +kernel
theorem dX10_changeOwners_1 : decode cX10_changeOwners 1 = .ok (.invokevirtual 204, 3) := by decide +kernel
theorem dX10_changeOwners_4 : decode cX10_changeOwners 4 = .ok (.aload_n 0, 1) := by decide +kernel
theorem dX10_changeOwners_5 : decode cX10_changeOwners 5 = .ok (.getfield 216, 3) := by decide +kernel
theorem dX10_changeOwners_8 : decode cX10_changeOwners 8 = .ok (.iconst 1, 1) := by decide +kernel
theorem dX10_changeOwners_9 : decode cX10_changeOwners 9 = .ok (.if_icmp .eq 11, 3) := by decide +kernel
theorem dX10_changeOwners_12 : decode cX10_changeOwners 12 = .ok (.aload_n 0, 1) := by decide +kernel
theorem dX10_changeOwners_13 : decode cX10_changeOwners 13 = .ok (.getfield 216, 3) := by decide +kernel
theorem dX10_changeOwners_16 : decode cX10_changeOwners 16 = .ok (.iconst 4, 1) := by decide +kernel
theorem dX10_changeOwners_17 : decode cX10_changeOwners 17 = .ok (.if_icmp .ne 18, 3) := by decide +kernel
theorem dX10_changeOwners_20 : decode cX10_changeOwners 20 = .ok (.aload_n 0, 1) := by decide +kernel
theorem dX10_changeOwners_21 : decode cX10_changeOwners 21 = .ok (.getfield 28, 3) := by decide +kernel
theorem dX10_changeOwners_24 : decode cX10_changeOwners 24 = .ok (.aload_n 0, 1) := by decide +kernel
theorem dX10_changeOwners_25 : decode cX10_changeOwners 25 = .ok (.getfield 222, 3) := by decide +kernel
theorem dX10_changeOwners_28 : decode cX10_changeOwners 28 = .ok (.aload_n 0, 1) := by decide +kernel
theorem dX10_changeOwners_29 : decode cX10_changeOwners 29 = .ok (.getfield 219, 3) := by decide +kernel
theorem dX10_changeOwners_32 : decode cX10_changeOwners 32 = .ok (.iconst 1, 1) := by decide +kernel
theorem dX10_changeOwners_33 : decode cX10_changeOwners 33 = .ok (.iadd, 1) := by decide +kernel
theorem dX10_changeOwners_34 : decode cX10_changeOwners 34 = .ok (.iastore, 1) := by decide +kernel
theorem dX10_changeOwners_35 : decode cX10_changeOwners 35 = .ok (.aload_n 0, 1) := by decide +kernel
theorem dX10_changeOwners_36 : decode cX10_changeOwners 36 = .ok (.getfield 216, 3) := by decide +kernel
theorem dX10_changeOwners_39 : decode cX10_changeOwners 39 = .ok (.iconst 2, 1) := by decide +kernel
theorem dX10_changeOwners_40 : decode cX10_changeOwners 40 = .ok (.if_icmp .ne 39, 3) := by decide +kernel
theorem dX10_changeOwners_43 : decode cX10_changeOwners 43 = .ok (.aload_n 0, 1) := by decide +kernel
theorem dX10_changeOwners_44 : decode cX10_changeOwners 44 = .ok (.getfield 28, 3) := by decide +kernel
theorem dX10_changeOwners_47 : decode cX10_changeOwners 47 = .ok (.aload_n 0, 1) := by decide +kernel
theorem dX10_changeOwners_48 : decode cX10_changeOwners 48 = .ok (.getfield 222, 3) := by decide +kernel
theorem dX10_changeOwners_51 : decode cX10_changeOwners 51 = .ok (.aload_n 0, 1) := by decide +kernel
theorem dX10_changeOwners_52 : decode cX10_changeOwners 52 = .ok (.getfield 25, 3) := by decide +kernel
theorem dX10_changeOwners_55 : decode cX10_changeOwners 55 = .ok (.aload_n 0, 1) := by decide +kernel
theorem dX10_changeOwners_56 : decode cX10_changeOwners 56 = .ok (.getfield 225, 3) := by decide +kernel
theorem dX10_changeOwners_59 : decode cX10_changeOwners 59 = .ok (.iaload, 1) := by decide +kernel
theorem dX10_changeOwners_60 : decode cX10_changeOwners 60 = .ok (.iastore, 1) := by decide +kernel
theorem dX10_changeOwners_61 : decode cX10_changeOwners 61 = .ok (.aload_n 0, 1) := by decide +kernel
theorem dX10_changeOwners_62 : decode cX10_changeOwners 62 = .ok (.getfield 28, 3) := by decide +kernel
theorem dX10_changeOwners_65 : decode cX10_changeOwners 65 = .ok (.aload_n 0, 1) := by decide +kernel
theorem dX10_changeOwners_66 : decode cX10_changeOwners 66 = .ok (.getfield 225, 3) := by decide +kernel
theorem dX10_changeOwners_69 : decode cX10_changeOwners 69 = .ok (.aload_n 0, 1) := by decide +kernel
theorem dX10_changeOwners_70 : decode cX10_changeOwners 70 = .ok (.getfield 25, 3) := by decide +kernel
theorem dX10_changeOwners_73 : decode cX10_changeOwners 73 = .ok (.aload_n 0, 1) := by decide +kernel
theorem dX10_changeOwners_74 : decode cX10_changeOwners 74 = .ok (.getfield 222, 3) := by decide +kernel
theorem dX10_changeOwners_77 : decode cX10_changeOwners 77 = .ok (.iaload, 1) := by decide +kernel
theorem dX10_changeOwners_78 : decode cX10_changeOwners 78 = .ok (.iastore, 1) := by decide +kernel
theorem dX10_changeOwners_79 : decode cX10_changeOwners 79 = .ok (.aload_n 0, 1) := by decide +kernel
theorem dX10_changeOwners_80 : decode cX10_changeOwners 80 = .ok (.getfield 216, 3) := by decide +kernel
theorem dX10_changeOwners_83 : decode cX10_changeOwners 83 = .ok (.iconst 3, 1) := by decide +kernel
theorem dX10_changeOwners_84 : decode cX10_changeOwners 84 = .ok (.if_icmp .ne 57, 3) := by decide +kernel
theorem dX10_changeOwners_87 : decode cX10_changeOwners 87 = .ok (.aload_n 0, 1) := by decide +kernel
theorem dX10_changeOwners_88 : decode cX10_changeOwners 88 = .ok (.getfield 28, 3) := by decide +kernel
theorem dX10_changeOwners_91 : decode cX10_changeOwners 91 = .ok (.aload_n 0, 1) := by decide +kernel
theorem dX10_changeOwners_92 : decode cX10_changeOwners 92 = .ok (.getfield 225, 3) := by decide +kernel
theorem dX10_changeOwners_95 : decode cX10_changeOwners 95 = .ok (.aload_n 0, 1) := by decide +kernel
theorem dX10_changeOwners_96 : decode cX10_changeOwners 96 = .ok (.getfield 25, 3) := by decide +kernel
theorem dX10_changeOwners_99 : decode cX10_changeOwners 99 = .ok (.aload_n 0, 1) := by decide +kernel
theorem dX10_changeOwners_100 : decode cX10_changeOwners 100 = .ok (.getfield 222, 3) := by decide +kernel
theorem dX10_changeOwners_103 : decode cX10_changeOwners 103 = .ok (.iaload, 1) := by decide +kernel
theorem dX10_changeOwners_104 : decode cX10_changeOwners 104 = .ok (.iastore, 1) := by decide +kernel
theorem dX10_changeOwners_105 : decode cX10_changeOwners 105 = .ok (.aload_n 0, 1) := by decide +kernel
theorem dX10_changeOwners_106 : decode cX10_changeOwners 106 = .ok (.getfield 28, 3) := by decide +kernel
theorem dX10_changeOwners_109 : decode cX10_changeOwners 109 = .ok (.aload_n 0, 1) := by decide +kernel
theorem dX10_changeOwners_110 : decode cX10_changeOwners 110 = .ok (.getfield 228, 3) := by decide +kernel
theorem dX10_changeOwners_113 : decode cX10_changeOwners 113 = .ok (.aload_n 0, 1) := by decide +kernel
theorem dX10_changeOwners_114 : decode cX10_changeOwners 114 = .ok (.getfield 25, 3) := by decide +kernel
theorem dX10_changeOwners_117 : decode cX10_changeOwners 117 = .ok (.aload_n 0, 1) := by decide +kernel
theorem dX10_changeOwners_118 : decode cX10_changeOwners 118 = .ok (.getfield 225, 3) := by decide +kernel
theorem dX10_changeOwners_121 : decode cX10_changeOwners 121 = .ok (.iaload, 1) := by decide +kernel
theorem dX10_changeOwners_122 : decode cX10_changeOwners 122 = .ok (.iastore, 1) := by decide +kernel
theorem dX10_changeOwners_123 : decode cX10_changeOwners 123 = .ok (.aload_n 0, 1) := by decide +kernel
theorem dX10_changeOwners_124 : decode cX10_changeOwners 124 = .ok (.getfield 28, 3) := by decide +kernel
theorem dX10_changeOwners_127 : decode cX10_changeOwners 127 = .ok (.aload_n 0, 1) := by decide +kernel
theorem dX10_changeOwners_128 : decode cX10_changeOwners 128 = .ok (.getfield 222, 3) := by decide +kernel
theorem dX10_changeOwners_131 : decode cX10_changeOwners 131 = .ok (.aload_n 0, 1) := by decide +kernel
theorem dX10_changeOwners_132 : decode cX10_changeOwners 132 = .ok (.getfield 25, 3) := by decide +kernel
theorem dX10_changeOwners_135 : decode cX10_changeOwners 135 = .ok (.aload_n 0, 1) := by decide +kernel
theorem dX10_changeOwners_136 : decode cX10_changeOwners 136 = .ok (.getfield 228, 3) := by decide +kernel
theorem dX10_changeOwners_139 : decode cX10_changeOwners 139 = .ok (.iaload, 1) := by decide +kernel
theorem dX10_changeOwners_140 : decode cX10_changeOwners 140 = .ok (.iastore, 1) := by decide +kernel
theorem dX10_changeOwners_141 : decode cX10_changeOwners 141 = .ok (.aload_n 0, 1) := by decide +kernel
theorem dX10_changeOwners_142 : decode cX10_changeOwners 142 = .ok (.getfield 216, 3) := by decide +kernel
theorem dX10_changeOwners_145 : decode cX10_changeOwners 145 = .ok (.bipush 6, 2) := by decide +kernel
theorem dX10_changeOwners_147 : decode cX10_changeOwners 147 = .ok (.if_icmp .eq 12, 3) := by decide +kernel
theorem dX10_changeOwners_150 : decode cX10_changeOwners 150 = .ok (.aload_n 0, 1) := by decide +kernel
theorem dX10_changeOwners_151 : decode cX10_changeOwners 151 = .ok (.getfield 216, 3) := by decide +kernel
theorem dX10_changeOwners_154 : decode cX10_changeOwners 154 = .ok (.bipush 7, 2) := by decide +kernel
theorem dX10_changeOwners_156 : decode cX10_changeOwners 156 = .ok (.if_icmp .ne 13, 3) := by decide +kernel
theorem dX10_changeOwners_159 : decode cX10_changeOwners 159 = .ok (.aload_n 0, 1) := by decide +kernel
theorem dX10_changeOwners_160 : decode cX10_changeOwners 160 = .ok (.getfield 28, 3) := by decide +kernel
theorem dX10_changeOwners_163 : decode cX10_changeOwners 163 = .ok (.aload_n 0, 1) := by decide +kernel
theorem dX10_changeOwners_164 : decode cX10_changeOwners 164 = .ok (.getfield 222, 3) := by decide +kernel
theorem dX10_changeOwners_167 : decode cX10_changeOwners 167 = .ok (.iconst 0, 1) := by decide +kernel
theorem dX10_changeOwners_168 : decode cX10_changeOwners 168 = .ok (.iastore, 1) := by decide +kernel
theorem dX10_changeOwners_169 : decode cX10_changeOwners 169 = .ok (.return_, 1) := by decide +kernel
theorem dX10_add_0 : decode cX10_add 0 = .ok (.aload_n 0, 1) := by decide +kernel
theorem dX10_add_1 : decode cX10_add 1 = .ok (.getfield 46, 3) := by decide +kernel
theorem dX10_add_4 : decode cX10_add 4 = .ok (.iload_n 1, 1) := by decide +kernel
theorem dX10_add_5 : decode cX10_add 5 = .ok (.iaload, 1) := by decide +kernel
theorem dX10_add_6 : decode cX10_add 6 = .ok (.iload_n 2, 1) := by decide +kernel
theorem dX10_add_7 : decode cX10_add 7 = .ok (.iadd, 1) := by decide +kernel
theorem dX10_add_8 : decode cX10_add 8 = .ok (.istore_n 3, 1) := by decide +kernel
theorem dX10_add_9 : decode cX10_add 9 = .ok (.aload_n 0, 1) := by decide +kernel
theorem dX10_add_10 : decode cX10_add 10 = .ok (.getfield 46, 3) := by decide +kernel
theorem dX10_add_13 : decode cX10_add 13 = .ok (.iload_n 1, 1) := by decide +kernel
theorem dX10_add_14 : decode cX10_add 14 = .ok (.iload_n 3, 1) := by decide +kernel
theorem dX10_add_15 : decode cX10_add 15 = .ok (.sipush 999, 3) := by decide +kernel
theorem dX10_add_18 : decode cX10_add 18 = .ok (.if_icmp .le 9, 3) := by decide +kernel
theorem dX10_add_21 : decode cX10_add 21 = .ok (.sipush 999, 3) := by decide +kernel
theorem dX10_add_24 : decode cX10_add 24 = .ok (.goto 4, 3) := by decide +kernel
theorem dX10_add_27 : decode cX10_add 27 = .ok (.iload_n 3, 1) := by decide +kernel
theorem dX10_add_28 : decode cX10_add 28 = .ok (.iastore, 1) := by decide +kernel
theorem dX10_add_29 : decode cX10_add 29 = .ok (.return_, 1) := by decide +kernel
theorem dX10_pay_0 : decode cX10_pay 0 = .ok (.iconst 0, 1) := by decide +kernel
theorem dX10_pay_1 : decode cX10_pay 1 = .ok (.istore_n 1, 1) := by decide +kernel
theorem dX10_pay_2 : decode cX10_pay 2 = .ok (.iload_n 1, 1) := by decide +kernel
theorem dX10_pay_3 : decode cX10_pay 3 = .ok (.iconst 3, 1) := by decide +kernel
theorem dX10_pay_4 : decode cX10_pay 4 = .ok (.if_icmp .ge 21, 3) := by decide +kernel
theorem dX10_pay_7 : decode cX10_pay 7 = .ok (.aload_n 0, 1) := by decide +kernel
theorem dX10_pay_8 : decode cX10_pay 8 = .ok (.getfield 46, 3) := by decide +kernel
theorem dX10_pay_11 : decode cX10_pay 11 = .ok (.iload_n 1, 1) := by decide +kernel
theorem dX10_pay_12 : decode cX10_pay 12 = .ok (.aload_n 0, 1) := by decide +kernel
theorem dX10_pay_13 : decode cX10_pay 13 = .ok (.getfield 16, 3) := by decide +kernel
theorem dX10_pay_16 : decode cX10_pay 16 = .ok (.iload_n 1, 1) := by decide +kernel
theorem dX10_pay_17 : decode cX10_pay 17 = .ok (.iaload, 1) := by decide +kernel
theorem dX10_pay_18 : decode cX10_pay 18 = .ok (.iastore, 1) := by decide +kernel
theorem dX10_pay_19 : decode cX10_pay 19 = .ok (.iinc 1 1, 3) := by decide +kernel
theorem dX10_pay_22 : decode cX10_pay 22 = .ok (.goto (-20), 3) := by decide +kernel
theorem dX10_pay_25 : decode cX10_pay 25 = .ok (.bipush 10, 2) := by decide +kernel
theorem dX10_pay_27 : decode cX10_pay 27 = .ok (.aload_n 0, 1) := by decide +kernel
theorem dX10_pay_28 : decode cX10_pay 28 = .ok (.getfield 7, 3) := by decide +kernel
theorem dX10_pay_31 : decode cX10_pay 31 = .ok (.aload_n 0, 1) := by decide +kernel
theorem dX10_pay_32 : decode cX10_pay 32 = .ok (.getfield 222, 3) := by decide +kernel
theorem dX10_pay_35 : decode cX10_pay 35 = .ok (.iaload, 1) := by decide +kernel
theorem dX10_pay_36 : decode cX10_pay 36 = .ok (.imul, 1) := by decide +kernel
theorem dX10_pay_37 : decode cX10_pay 37 = .ok (.aload_n 0, 1) := by decide +kernel
theorem dX10_pay_38 : decode cX10_pay 38 = .ok (.getfield 228, 3) := by decide +kernel
theorem dX10_pay_41 : decode cX10_pay 41 = .ok (.iadd, 1) := by decide +kernel
theorem dX10_pay_42 : decode cX10_pay 42 = .ok (.istore_n 1, 1) := by decide +kernel
theorem dX10_pay_43 : decode cX10_pay 43 = .ok (.aload_n 0, 1) := by decide +kernel
theorem dX10_pay_44 : decode cX10_pay 44 = .ok (.getfield 216, 3) := by decide +kernel
theorem dX10_pay_47 : decode cX10_pay 47 = .ok (.iconst 1, 1) := by decide +kernel
theorem dX10_pay_48 : decode cX10_pay 48 = .ok (.if_icmp .eq 11, 3) := by decide +kernel
theorem dX10_pay_51 : decode cX10_pay 51 = .ok (.aload_n 0, 1) := by decide +kernel
theorem dX10_pay_52 : decode cX10_pay 52 = .ok (.getfield 216, 3) := by decide +kernel
theorem dX10_pay_55 : decode cX10_pay 55 = .ok (.iconst 4, 1) := by decide +kernel
theorem dX10_pay_56 : decode cX10_pay 56 = .ok (.if_icmp .ne 57, 3) := by decide +kernel
theorem dX10_pay_59 : decode cX10_pay 59 = .ok (.aload_n 0, 1) := by decide +kernel
theorem dX10_pay_60 : decode cX10_pay 60 = .ok (.getfield 216, 3) := by decide +kernel
theorem dX10_pay_63 : decode cX10_pay 63 = .ok (.iconst 4, 1) := by decide +kernel
theorem dX10_pay_64 : decode cX10_pay 64 = .ok (.if_icmp .ne 9, 3) := by decide +kernel
theorem dX10_pay_67 : decode cX10_pay 67 = .ok (.iconst 2, 1) := by decide +kernel
theorem dX10_pay_68 : decode cX10_pay 68 = .ok (.iload_n 1, 1) := by decide +kernel
theorem dX10_pay_69 : decode cX10_pay 69 = .ok (.imul, 1) := by decide +kernel
theorem dX10_pay_70 : decode cX10_pay 70 = .ok (.goto 4, 3) := by decide +kernel
theorem dX10_pay_73 : decode cX10_pay 73 = .ok (.iload_n 1, 1) := by decide +kernel
theorem dX10_pay_74 : decode cX10_pay 74 = .ok (.istore_n 2, 1) := by decide +kernel
theorem dX10_pay_75 : decode cX10_pay 75 = .ok (.aload_n 0, 1) := by decide +kernel
theorem dX10_pay_76 : decode cX10_pay 76 = .ok (.aload_n 0, 1) := by decide +kernel
theorem dX10_pay_77 : decode cX10_pay 77 = .ok (.getfield 219, 3) := by decide +kernel
theorem dX10_pay_80 : decode cX10_pay 80 = .ok (.iload_n 2, 1) := by decide +kernel
theorem dX10_pay_81 : decode cX10_pay 81 = .ok (.ineg, 1) := by decide +kernel
theorem dX10_pay_82 : decode cX10_pay 82 = .ok (.invokevirtual 231, 3) := by decide +kernel
theorem dX10_pay_85 : decode cX10_pay 85 = .ok (.aload_n 0, 1) := by decide +kernel
theorem dX10_pay_86 : decode cX10_pay 86 = .ok (.getfield 25, 3) := by decide +kernel
theorem dX10_pay_89 : decode cX10_pay 89 = .ok (.aload_n 0, 1) := by decide +kernel
theorem dX10_pay_90 : decode cX10_pay 90 = .ok (.getfield 222, 3) := by decide +kernel
theorem dX10_pay_93 : decode cX10_pay 93 = .ok (.iaload, 1) := by decide +kernel
theorem dX10_pay_94 : decode cX10_pay 94 = .ok (.ifCond .le 19, 3) := by decide +kernel
theorem dX10_pay_97 : decode cX10_pay 97 = .ok (.aload_n 0, 1) := by decide +kernel
theorem dX10_pay_98 : decode cX10_pay 98 = .ok (.aload_n 0, 1) := by decide +kernel
theorem dX10_pay_99 : decode cX10_pay 99 = .ok (.getfield 25, 3) := by decide +kernel
theorem dX10_pay_102 : decode cX10_pay 102 = .ok (.aload_n 0, 1) := by decide +kernel
theorem dX10_pay_103 : decode cX10_pay 103 = .ok (.getfield 222, 3) := by decide +kernel
theorem dX10_pay_106 : decode cX10_pay 106 = .ok (.iaload, 1) := by decide +kernel
theorem dX10_pay_107 : decode cX10_pay 107 = .ok (.iconst 1, 1) := by decide +kernel
theorem dX10_pay_108 : decode cX10_pay 108 = .ok (.isub, 1) := by decide +kernel
theorem dX10_pay_109 : decode cX10_pay 109 = .ok (.iload_n 2, 1) := by decide +kernel
theorem dX10_pay_110 : decode cX10_pay 110 = .ok (.invokevirtual 231, 3) := by decide +kernel
theorem dX10_pay_113 : decode cX10_pay 113 = .ok (.aload_n 0, 1) := by decide +kernel
theorem dX10_pay_114 : decode cX10_pay 114 = .ok (.getfield 216, 3) := by decide +kernel
theorem dX10_pay_117 : decode cX10_pay 117 = .ok (.iconst 5, 1) := by decide +kernel
theorem dX10_pay_118 : decode cX10_pay 118 = .ok (.if_icmp .ne 18, 3) := by decide +kernel
theorem dX10_pay_121 : decode cX10_pay 121 = .ok (.aload_n 0, 1) := by decide +kernel
theorem dX10_pay_122 : decode cX10_pay 122 = .ok (.aload_n 0, 1) := by decide +kernel
theorem dX10_pay_123 : decode cX10_pay 123 = .ok (.getfield 219, 3) := by decide +kernel
theorem dX10_pay_126 : decode cX10_pay 126 = .ok (.bipush (-5), 2) := by decide +kernel
theorem dX10_pay_128 : decode cX10_pay 128 = .ok (.aload_n 0, 1) := by decide +kernel
theorem dX10_pay_129 : decode cX10_pay 129 = .ok (.getfield 228, 3) := by decide +kernel
theorem dX10_pay_132 : decode cX10_pay 132 = .ok (.imul, 1) := by decide +kernel
theorem dX10_pay_133 : decode cX10_pay 133 = .ok (.invokevirtual 231, 3) := by decide +kernel
theorem dX10_pay_136 : decode cX10_pay 136 = .ok (.aload_n 0, 1) := by decide +kernel
theorem dX10_pay_137 : decode cX10_pay 137 = .ok (.getfield 216, 3) := by decide +kernel
theorem dX10_pay_140 : decode cX10_pay 140 = .ok (.bipush 7, 2) := by decide +kernel
theorem dX10_pay_142 : decode cX10_pay 142 = .ok (.if_icmp .ne 14, 3) := by decide +kernel
theorem dX10_pay_145 : decode cX10_pay 145 = .ok (.aload_n 0, 1) := by decide +kernel
theorem dX10_pay_146 : decode cX10_pay 146 = .ok (.aload_n 0, 1) := by decide +kernel
theorem dX10_pay_147 : decode cX10_pay 147 = .ok (.getfield 219, 3) := by decide +kernel
theorem dX10_pay_150 : decode cX10_pay 150 = .ok (.iload_n 1, 1) := by decide +kernel
theorem dX10_pay_151 : decode cX10_pay 151 = .ok (.iconst 2, 1) := by decide +kernel
theorem dX10_pay_152 : decode cX10_pay 152 = .ok (.idiv, 1) := by decide +kernel
theorem dX10_pay_153 : decode cX10_pay 153 = .ok (.invokevirtual 231, 3) := by decide +kernel
theorem dX10_pay_156 : decode cX10_pay 156 = .ok (.return_, 1) := by decide +kernel
theorem dX10_canBeDone_0 : decode cX10_canBeDone 0 = .ok (.aload_n 0, 1) := by decide +kernel
theorem dX10_canBeDone_1 : decode cX10_canBeDone 1 = .ok (.invokevirtual 234, 3) := by decide +kernel
theorem dX10_canBeDone_4 : decode cX10_canBeDone 4 = .ok (.ifCond .ne 5, 3) := by decide +kernel
theorem dX10_canBeDone_7 : decode cX10_canBeDone 7 = .ok (.iconst 0, 1) := by decide +kernel
theorem dX10_canBeDone_8 : decode cX10_canBeDone 8 = .ok (.ireturn, 1) := by decide +kernel
theorem dX10_canBeDone_9 : decode cX10_canBeDone 9 = .ok (.aload_n 0, 1) := by decide +kernel
theorem dX10_canBeDone_10 : decode cX10_canBeDone 10 = .ok (.invokevirtual 237, 3) := by decide +kernel
theorem dX10_canBeDone_13 : decode cX10_canBeDone 13 = .ok (.aload_n 0, 1) := by decide +kernel
theorem dX10_canBeDone_14 : decode cX10_canBeDone 14 = .ok (.getfield 216, 3) := by decide +kernel
theorem dX10_canBeDone_17 : decode cX10_canBeDone 17 = .ok (.iconst 5, 1) := by decide +kernel
theorem dX10_canBeDone_18 : decode cX10_canBeDone 18 = .ok (.if_icmp .ne 23, 3) := by decide +kernel
theorem dX10_canBeDone_21 : decode cX10_canBeDone 21 = .ok (.aload_n 0, 1) := by decide +kernel
theorem dX10_canBeDone_22 : decode cX10_canBeDone 22 = .ok (.getfield 13, 3) := by decide +kernel
theorem dX10_canBeDone_25 : decode cX10_canBeDone 25 = .ok (.bipush 6, 2) := by decide +kernel
theorem dX10_canBeDone_27 : decode cX10_canBeDone 27 = .ok (.aload_n 0, 1) := by decide +kernel
theorem dX10_canBeDone_28 : decode cX10_canBeDone 28 = .ok (.getfield 222, 3) := by decide +kernel
theorem dX10_canBeDone_31 : decode cX10_canBeDone 31 = .ok (.imul, 1) := by decide +kernel
theorem dX10_canBeDone_32 : decode cX10_canBeDone 32 = .ok (.aload_n 0, 1) := by decide +kernel
theorem dX10_canBeDone_33 : decode cX10_canBeDone 33 = .ok (.getfield 225, 3) := by decide +kernel
theorem dX10_canBeDone_36 : decode cX10_canBeDone 36 = .ok (.iadd, 1) := by decide +kernel
theorem dX10_canBeDone_37 : decode cX10_canBeDone 37 = .ok (.iaload, 1) := by decide +kernel
theorem dX10_canBeDone_38 : decode cX10_canBeDone 38 = .ok (.goto 4, 3) := by decide +kernel
theorem dX10_canBeDone_41 : decode cX10_canBeDone 41 = .ok (.iconst 0, 1) := by decide +kernel
theorem dX10_canBeDone_42 : decode cX10_canBeDone 42 = .ok (.istore_n 1, 1) := by decide +kernel
theorem dX10_canBeDone_43 : decode cX10_canBeDone 43 = .ok (.aload_n 0, 1) := by decide +kernel
theorem dX10_canBeDone_44 : decode cX10_canBeDone 44 = .ok (.getfield 216, 3) := by decide +kernel
theorem dX10_canBeDone_47 : decode cX10_canBeDone 47 = .ok (.iconst 5, 1) := by decide +kernel
theorem dX10_canBeDone_48 : decode cX10_canBeDone 48 = .ok (.if_icmp .ne 39, 3) := by decide +kernel
theorem dX10_canBeDone_51 : decode cX10_canBeDone 51 = .ok (.aload_n 0, 1) := by decide +kernel
theorem dX10_canBeDone_52 : decode cX10_canBeDone 52 = .ok (.getfield 13, 3) := by decide +kernel
theorem dX10_canBeDone_55 : decode cX10_canBeDone 55 = .ok (.bipush 6, 2) := by decide +kernel
theorem dX10_canBeDone_57 : decode cX10_canBeDone 57 = .ok (.aload_n 0, 1) := by decide +kernel
theorem dX10_canBeDone_58 : decode cX10_canBeDone 58 = .ok (.getfield 222, 3) := by decide +kernel
theorem dX10_canBeDone_61 : decode cX10_canBeDone 61 = .ok (.imul, 1) := by decide +kernel
theorem dX10_canBeDone_62 : decode cX10_canBeDone 62 = .ok (.aload_n 0, 1) := by decide +kernel
theorem dX10_canBeDone_63 : decode cX10_canBeDone 63 = .ok (.getfield 225, 3) := by decide +kernel
theorem dX10_canBeDone_66 : decode cX10_canBeDone 66 = .ok (.iadd, 1) := by decide +kernel
theorem dX10_canBeDone_67 : decode cX10_canBeDone 67 = .ok (.iconst 2, 1) := by decide +kernel
theorem dX10_canBeDone_68 : decode cX10_canBeDone 68 = .ok (.iastore, 1) := by decide +kernel
theorem dX10_canBeDone_69 : decode cX10_canBeDone 69 = .ok (.aload_n 0, 1) := by decide +kernel
theorem dX10_canBeDone_70 : decode cX10_canBeDone 70 = .ok (.getfield 13, 3) := by decide +kernel
theorem dX10_canBeDone_73 : decode cX10_canBeDone 73 = .ok (.bipush 6, 2) := by decide +kernel
theorem dX10_canBeDone_75 : decode cX10_canBeDone 75 = .ok (.aload_n 0, 1) := by decide +kernel
theorem dX10_canBeDone_76 : decode cX10_canBeDone 76 = .ok (.getfield 225, 3) := by decide +kernel
theorem dX10_canBeDone_79 : decode cX10_canBeDone 79 = .ok (.imul, 1) := by decide +kernel
theorem dX10_canBeDone_80 : decode cX10_canBeDone 80 = .ok (.aload_n 0, 1) := by decide +kernel
theorem dX10_canBeDone_81 : decode cX10_canBeDone 81 = .ok (.getfield 222, 3) := by decide +kernel
theorem dX10_canBeDone_84 : decode cX10_canBeDone 84 = .ok (.iadd, 1) := by decide +kernel
theorem dX10_canBeDone_85 : decode cX10_canBeDone 85 = .ok (.iconst 2, 1) := by decide +kernel
theorem dX10_canBeDone_86 : decode cX10_canBeDone 86 = .ok (.iastore, 1) := by decide +kernel
theorem dX10_canBeDone_87 : decode cX10_canBeDone 87 = .ok (.aload_n 0, 1) := by decide +kernel
theorem dX10_canBeDone_88 : decode cX10_canBeDone 88 = .ok (.invokevirtual 210, 3) := by decide +kernel
theorem dX10_canBeDone_91 : decode cX10_canBeDone 91 = .ok (.istore_n 2, 1) := by decide +kernel
theorem dX10_canBeDone_92 : decode cX10_canBeDone 92 = .ok (.aload_n 0, 1) := by decide +kernel
theorem dX10_canBeDone_93 : decode cX10_canBeDone 93 = .ok (.getfield 216, 3) := by decide +kernel
theorem dX10_canBeDone_96 : decode cX10_canBeDone 96 = .ok (.iconst 5, 1) := by decide +kernel
theorem dX10_canBeDone_97 : decode cX10_canBeDone 97 = .ok (.if_icmp .ne 39, 3) := by decide +kernel
theorem dX10_canBeDone_100 : decode cX10_canBeDone 100 = .ok (.aload_n 0, 1) := by decide +kernel
theorem dX10_canBeDone_101 : decode cX10_canBeDone 101 = .ok (.getfield 13, 3) := by decide +kernel
theorem dX10_canBeDone_104 : decode cX10_canBeDone 104 = .ok (.bipush 6, 2) := by decide +kernel
theorem dX10_canBeDone_106 : decode cX10_canBeDone 106 = .ok (.aload_n 0, 1) := by decide +kernel
theorem dX10_canBeDone_107 : decode cX10_canBeDone 107 = .ok (.getfield 222, 3) := by decide +kernel
theorem dX10_canBeDone_110 : decode cX10_canBeDone 110 = .ok (.imul, 1) := by decide +kernel
theorem dX10_canBeDone_111 : decode cX10_canBeDone 111 = .ok (.aload_n 0, 1) := by decide +kernel
theorem dX10_canBeDone_112 : decode cX10_canBeDone 112 = .ok (.getfield 225, 3) := by decide +kernel
theorem dX10_canBeDone_115 : decode cX10_canBeDone 115 = .ok (.iadd, 1) := by decide +kernel
theorem dX10_canBeDone_116 : decode cX10_canBeDone 116 = .ok (.iload_n 1, 1) := by decide +kernel
theorem dX10_canBeDone_117 : decode cX10_canBeDone 117 = .ok (.iastore, 1) := by decide +kernel
theorem dX10_canBeDone_118 : decode cX10_canBeDone 118 = .ok (.aload_n 0, 1) := by decide +kernel
theorem dX10_canBeDone_119 : decode cX10_canBeDone 119 = .ok (.getfield 13, 3) := by decide +kernel
theorem dX10_canBeDone_122 : decode cX10_canBeDone 122 = .ok (.bipush 6, 2) := by decide +kernel
theorem dX10_canBeDone_124 : decode cX10_canBeDone 124 = .ok (.aload_n 0, 1) := by decide +kernel
theorem dX10_canBeDone_125 : decode cX10_canBeDone 125 = .ok (.getfield 225, 3) := by decide +kernel
theorem dX10_canBeDone_128 : decode cX10_canBeDone 128 = .ok (.imul, 1) := by decide +kernel
theorem dX10_canBeDone_129 : decode cX10_canBeDone 129 = .ok (.aload_n 0, 1) := by decide +kernel
theorem dX10_canBeDone_130 : decode cX10_canBeDone 130 = .ok (.getfield 222, 3) := by decide +kernel
theorem dX10_canBeDone_133 : decode cX10_canBeDone 133 = .ok (.iadd, 1) := by decide +kernel
theorem dX10_canBeDone_134 : decode cX10_canBeDone 134 = .ok (.iload_n 1, 1) := by decide +kernel
theorem dX10_canBeDone_135 : decode cX10_canBeDone 135 = .ok (.iastore, 1) := by decide +kernel
theorem dX10_canBeDone_136 : decode cX10_canBeDone 136 = .ok (.aload_n 0, 1) := by decide +kernel
theorem dX10_canBeDone_137 : decode cX10_canBeDone 137 = .ok (.invokevirtual 240, 3) := by decide +kernel
theorem dX10_canBeDone_140 : decode cX10_canBeDone 140 = .ok (.iload_n 2, 1) := by decide +kernel
theorem dX10_canBeDone_141 : decode cX10_canBeDone 141 = .ok (.ifCond .eq 34, 3) := by decide +kernel
theorem dX10_canBeDone_144 : decode cX10_canBeDone 144 = .ok (.aload_n 0, 1) := by decide +kernel
theorem dX10_canBeDone_145 : decode cX10_canBeDone 145 = .ok (.getfield 46, 3) := by decide +kernel
theorem dX10_canBeDone_148 : decode cX10_canBeDone 148 = .ok (.iconst 0, 1) := by decide +kernel
theorem dX10_canBeDone_149 : decode cX10_canBeDone 149 = .ok (.iaload, 1) := by decide +kernel
theorem dX10_canBeDone_150 : decode cX10_canBeDone 150 = .ok (.ifCond .lt 25, 3) := by decide +kernel
theorem dX10_canBeDone_153 : decode cX10_canBeDone 153 = .ok (.aload_n 0, 1) := by decide +kernel
theorem dX10_canBeDone_154 : decode cX10_canBeDone 154 = .ok (.getfield 46, 3) := by decide +kernel
theorem dX10_canBeDone_157 : decode cX10_canBeDone 157 = .ok (.iconst 1, 1) := by decide +kernel
theorem dX10_canBeDone_158 : decode cX10_canBeDone 158 = .ok (.iaload, 1) := by decide +kernel
theorem dX10_canBeDone_159 : decode cX10_canBeDone 159 = .ok (.ifCond .lt 16, 3) := by decide +kernel
theorem dX10_canBeDone_162 : decode cX10_canBeDone 162 = .ok (.aload_n 0, 1) := by decide +kernel
theorem dX10_canBeDone_163 : decode cX10_canBeDone 163 = .ok (.getfield 46, 3) := by decide +kernel
theorem dX10_canBeDone_166 : decode cX10_canBeDone 166 = .ok (.iconst 2, 1) := by decide +kernel
theorem dX10_canBeDone_167 : decode cX10_canBeDone 167 = .ok (.iaload, 1) := by decide +kernel
theorem dX10_canBeDone_168 : decode cX10_canBeDone 168 = .ok (.ifCond .lt 7, 3) := by decide +kernel
theorem dX10_canBeDone_171 : decode cX10_canBeDone 171 = .ok (.iconst 1, 1) := by decide +kernel
theorem dX10_canBeDone_172 : decode cX10_canBeDone 172 = .ok (.goto 4, 3) := by decide +kernel
theorem dX10_canBeDone_175 : decode cX10_canBeDone 175 = .ok (.iconst 0, 1) := by decide +kernel
theorem dX10_canBeDone_176 : decode cX10_canBeDone 176 = .ok (.ireturn, 1) := by decide +kernel
theorem dX10_isWanted_0 : decode cX10_isWanted 0 = .ok (.aload_n 0, 1) := by decide +kernel
theorem dX10_isWanted_1 : decode cX10_isWanted 1 = .ok (.invokevirtual 234, 3) := by decide +kernel
theorem dX10_isWanted_4 : decode cX10_isWanted 4 = .ok (.istore_n 1, 1) := by decide +kernel
theorem dX10_isWanted_5 : decode cX10_isWanted 5 = .ok (.iconst 0, 1) := by decide +kernel
theorem dX10_isWanted_6 : decode cX10_isWanted 6 = .ok (.istore_n 2, 1) := by decide +kernel
theorem dX10_isWanted_7 : decode cX10_isWanted 7 = .ok (.iload_n 2, 1) := by decide +kernel
theorem dX10_isWanted_8 : decode cX10_isWanted 8 = .ok (.aload_n 0, 1) := by decide +kernel
theorem dX10_isWanted_9 : decode cX10_isWanted 9 = .ok (.getfield 110, 3) := by decide +kernel
theorem dX10_isWanted_12 : decode cX10_isWanted 12 = .ok (.if_icmp .ge 51, 3) := by decide +kernel
theorem dX10_isWanted_15 : decode cX10_isWanted 15 = .ok (.aload_n 0, 1) := by decide +kernel
theorem dX10_isWanted_16 : decode cX10_isWanted 16 = .ok (.getfield 216, 3) := by decide +kernel
theorem dX10_isWanted_19 : decode cX10_isWanted 19 = .ok (.bipush 6, 2) := by decide +kernel
theorem dX10_isWanted_21 : decode cX10_isWanted 21 = .ok (.if_icmp .ge 42, 3) := by decide +kernel
theorem dX10_isWanted_24 : decode cX10_isWanted 24 = .ok (.aload_n 0, 1) := by decide +kernel
theorem dX10_isWanted_25 : decode cX10_isWanted 25 = .ok (.invokevirtual 204, 3) := by decide +kernel
theorem dX10_isWanted_28 : decode cX10_isWanted 28 = .ok (.aload_n 0, 1) := by decide +kernel
theorem dX10_isWanted_29 : decode cX10_isWanted 29 = .ok (.iload_n 2, 1) := by decide +kernel
theorem dX10_isWanted_30 : decode cX10_isWanted 30 = .ok (.invokevirtual 129, 3) := by decide +kernel
theorem dX10_isWanted_33 : decode cX10_isWanted 33 = .ok (.istore_n 3, 1) := by decide +kernel
theorem dX10_isWanted_34 : decode cX10_isWanted 34 = .ok (.aload_n 0, 1) := by decide +kernel
theorem dX10_isWanted_35 : decode cX10_isWanted 35 = .ok (.invokevirtual 237, 3) := by decide +kernel
theorem dX10_isWanted_38 : decode cX10_isWanted 38 = .ok (.iload_n 1, 1) := by decide +kernel
theorem dX10_isWanted_39 : decode cX10_isWanted 39 = .ok (.ifCond .eq 16, 3) := by decide +kernel
theorem dX10_isWanted_42 : decode cX10_isWanted 42 = .ok (.aload_n 0, 1) := by decide +kernel
theorem dX10_isWanted_43 : decode cX10_isWanted 43 = .ok (.iload_n 2, 1) := by decide +kernel
theorem dX10_isWanted_44 : decode cX10_isWanted 44 = .ok (.invokevirtual 129, 3) := by decide +kernel
theorem dX10_isWanted_47 : decode cX10_isWanted 47 = .ok (.iload_n 3, 1) := by decide +kernel
theorem dX10_isWanted_48 : decode cX10_isWanted 48 = .ok (.if_icmp .lt 7, 3) := by decide +kernel
theorem dX10_isWanted_51 : decode cX10_isWanted 51 = .ok (.iconst 1, 1) := by decide +kernel
theorem dX10_isWanted_52 : decode cX10_isWanted 52 = .ok (.goto 4, 3) := by decide +kernel
theorem dX10_isWanted_55 : decode cX10_isWanted 55 = .ok (.iconst 0, 1) := by decide +kernel
theorem dX10_isWanted_56 : decode cX10_isWanted 56 = .ok (.istore_n 1, 1) := by decide +kernel
theorem dX10_isWanted_57 : decode cX10_isWanted 57 = .ok (.iinc 2 1, 3) := by decide +kernel
theorem dX10_isWanted_60 : decode cX10_isWanted 60 = .ok (.goto (-53), 3) := by decide +kernel
theorem dX10_isWanted_63 : decode cX10_isWanted 63 = .ok (.iload_n 1, 1) := by decide +kernel
theorem dX10_isWanted_64 : decode cX10_isWanted 64 = .ok (.ireturn, 1) := by decide +kernel
theorem dX10_may_0 : decode cX10_may 0 = .ok (.aload_n 0, 1) := by decide +kernel
theorem dX10_may_1 : decode cX10_may 1 = .ok (.iconst 0, 1) := by decide +kernel
theorem dX10_may_2 : decode cX10_may 2 = .ok (.putfield 99, 3) := by decide +kernel
theorem dX10_may_5 : decode cX10_may 5 = .ok (.iload_n 2, 1) := by decide +kernel
theorem dX10_may_6 : decode cX10_may 6 = .ok (.i2l, 1) := by decide +kernel
theorem dX10_may_7 : decode cX10_may 7 = .ok (.lconst 0, 1) := by decide +kernel
theorem dX10_may_8 : decode cX10_may 8 = .ok (.lconst 1, 1) := by decide +kernel
theorem dX10_may_9 : decode cX10_may 9 = .ok (.invokestatic 106, 3) := by decide +kernel
theorem dX10_may_12 : decode cX10_may 12 = .ok (.ifCond .eq 11, 3) := by decide +kernel
theorem dX10_may_15 : decode cX10_may 15 = .ok (.aload_n 0, 1) := by decide +kernel
theorem dX10_may_16 : decode cX10_may 16 = .ok (.iload_n 1, 1) := by decide +kernel
theorem dX10_may_17 : decode cX10_may 17 = .ok (.invokevirtual 243, 3) := by decide +kernel
theorem dX10_may_20 : decode cX10_may 20 = .ok (.ifCond .ge 23, 3) := by decide +kernel
theorem dX10_may_23 : decode cX10_may 23 = .ok (.iload_n 2, 1) := by decide +kernel
theorem dX10_may_24 : decode cX10_may 24 = .ok (.i2l, 1) := by decide +kernel
theorem dX10_may_25 : decode cX10_may 25 = .ok (.lconst 0, 1) := by decide +kernel
theorem dX10_may_26 : decode cX10_may 26 = .ok (.lconst 1, 1) := by decide +kernel
theorem dX10_may_27 : decode cX10_may 27 = .ok (.invokestatic 106, 3) := by decide +kernel
theorem dX10_may_30 : decode cX10_may 30 = .ok (.ifCond .ne 7, 3) := by decide +kernel
theorem dX10_may_33 : decode cX10_may 33 = .ok (.iconst (-1), 1) := by decide +kernel
theorem dX10_may_34 : decode cX10_may 34 = .ok (.goto 8, 3) := by decide +kernel
theorem dX10_may_37 : decode cX10_may 37 = .ok (.aload_n 0, 1) := by decide +kernel
theorem dX10_may_38 : decode cX10_may 38 = .ok (.iload_n 1, 1) := by decide +kernel
theorem dX10_may_39 : decode cX10_may 39 = .ok (.invokevirtual 243, 3) := by decide +kernel
theorem dX10_may_42 : decode cX10_may 42 = .ok (.ireturn, 1) := by decide +kernel
theorem dX10_may_43 : decode cX10_may 43 = .ok (.aload_n 0, 1) := by decide +kernel
theorem dX10_may_44 : decode cX10_may 44 = .ok (.iload_n 1, 1) := by decide +kernel
theorem dX10_may_45 : decode cX10_may 45 = .ok (.invokevirtual 246, 3) := by decide +kernel
theorem dX10_may_48 : decode cX10_may 48 = .ok (.ifCond .ne 6, 3) := by decide +kernel
theorem dX10_may_51 : decode cX10_may 51 = .ok (.bipush (-13), 2) := by decide +kernel
theorem dX10_may_53 : decode cX10_may 53 = .ok (.ireturn, 1) := by decide +kernel
theorem dX10_may_54 : decode cX10_may 54 = .ok (.iload_n 2, 1) := by decide +kernel
theorem dX10_may_55 : decode cX10_may 55 = .ok (.ifCond .ne 13, 3) := by decide +kernel
theorem dX10_may_58 : decode cX10_may 58 = .ok (.aload_n 0, 1) := by decide +kernel
theorem dX10_may_59 : decode cX10_may 59 = .ok (.invokevirtual 249, 3) := by decide +kernel
theorem dX10_may_62 : decode cX10_may 62 = .ok (.ifCond .eq 17, 3) := by decide +kernel
theorem dX10_may_65 : decode cX10_may 65 = .ok (.goto 10, 3) := by decide +kernel
theorem dX10_may_68 : decode cX10_may 68 = .ok (.aload_n 0, 1) := by decide +kernel
theorem dX10_may_69 : decode cX10_may 69 = .ok (.invokevirtual 252, 3) := by decide +kernel
theorem dX10_may_72 : decode cX10_may 72 = .ok (.ifCond .eq 7, 3) := by decide +kernel
theorem dX10_may_75 : decode cX10_may 75 = .ok (.iconst 1, 1) := by decide +kernel
theorem dX10_may_76 : decode cX10_may 76 = .ok (.goto 4, 3) := by decide +kernel
theorem dX10_may_79 : decode cX10_may 79 = .ok (.iconst 0, 1) := by decide +kernel
theorem dX10_may_80 : decode cX10_may 80 = .ok (.ireturn, 1) := by decide +kernel
theorem dX10_move_0 : decode cX10_move 0 = .ok (.aload_n 0, 1) := by decide +kernel
theorem dX10_move_1 : decode cX10_move 1 = .ok (.iconst 0, 1) := by decide +kernel
theorem dX10_move_2 : decode cX10_move 2 = .ok (.putfield 99, 3) := by decide +kernel
theorem dX10_move_5 : decode cX10_move 5 = .ok (.aload_n 0, 1) := by decide +kernel
theorem dX10_move_6 : decode cX10_move 6 = .ok (.iload_n 1, 1) := by decide +kernel
theorem dX10_move_7 : decode cX10_move 7 = .ok (.invokevirtual 243, 3) := by decide +kernel
theorem dX10_move_10 : decode cX10_move 10 = .ok (.ifCond .ge 9, 3) := by decide +kernel
theorem dX10_move_13 : decode cX10_move 13 = .ok (.aload_n 0, 1) := by decide +kernel
theorem dX10_move_14 : decode cX10_move 14 = .ok (.iload_n 1, 1) := by decide +kernel
theorem dX10_move_15 : decode cX10_move 15 = .ok (.invokevirtual 243, 3) := by decide +kernel
theorem dX10_move_18 : decode cX10_move 18 = .ok (.ireturn, 1) := by decide +kernel
theorem dX10_move_19 : decode cX10_move 19 = .ok (.aload_n 0, 1) := by decide +kernel
theorem dX10_move_20 : decode cX10_move 20 = .ok (.iload_n 1, 1) := by decide +kernel
theorem dX10_move_21 : decode cX10_move 21 = .ok (.invokevirtual 246, 3) := by decide +kernel
theorem dX10_move_24 : decode cX10_move 24 = .ok (.ifCond .ne 6, 3) := by decide +kernel
theorem dX10_move_27 : decode cX10_move 27 = .ok (.bipush (-13), 2) := by decide +kernel
theorem dX10_move_29 : decode cX10_move 29 = .ok (.ireturn, 1) := by decide +kernel
theorem dX10_move_30 : decode cX10_move 30 = .ok (.aload_n 0, 1) := by decide +kernel
theorem dX10_move_31 : decode cX10_move 31 = .ok (.invokevirtual 249, 3) := by decide +kernel
theorem dX10_move_34 : decode cX10_move 34 = .ok (.ifCond .ne 6, 3) := by decide +kernel
theorem dX10_move_37 : decode cX10_move 37 = .ok (.bipush (-3), 2) := by decide +kernel
theorem dX10_move_39 : decode cX10_move 39 = .ok (.ireturn, 1) := by decide +kernel
theorem dX10_move_40 : decode cX10_move 40 = .ok (.iconst 0, 1) := by decide +kernel
theorem dX10_move_41 : decode cX10_move 41 = .ok (.istore_n 2, 1) := by decide +kernel
theorem dX10_move_42 : decode cX10_move 42 = .ok (.iconst 0, 1) := by decide +kernel
theorem dX10_move_43 : decode cX10_move 43 = .ok (.istore_n 3, 1) := by decide +kernel
theorem dX10_move_44 : decode cX10_move 44 = .ok (.iload_n 3, 1) := by decide +kernel
theorem dX10_move_45 : decode cX10_move 45 = .ok (.aload_n 0, 1) := by decide +kernel
theorem dX10_move_46 : decode cX10_move 46 = .ok (.getfield 103, 3) := by decide +kernel
theorem dX10_move_49 : decode cX10_move 49 = .ok (.if_icmp .ge 44, 3) := by decide +kernel
theorem dX10_move_52 : decode cX10_move 52 = .ok (.iload_n 2, 1) := by decide +kernel
theorem dX10_move_53 : decode cX10_move 53 = .ok (.aload_n 0, 1) := by decide +kernel
theorem dX10_move_54 : decode cX10_move 54 = .ok (.getfield 25, 3) := by decide +kernel
theorem dX10_move_57 : decode cX10_move 57 = .ok (.iload_n 3, 1) := by decide +kernel
theorem dX10_move_58 : decode cX10_move 58 = .ok (.iaload, 1) := by decide +kernel
theorem dX10_move_59 : decode cX10_move 59 = .ok (.aload_n 0, 1) := by decide +kernel
theorem dX10_move_60 : decode cX10_move 60 = .ok (.getfield 28, 3) := by decide +kernel
theorem dX10_move_63 : decode cX10_move 63 = .ok (.iload_n 3, 1) := by decide +kernel
theorem dX10_move_64 : decode cX10_move 64 = .ok (.iaload, 1) := by decide +kernel
theorem dX10_move_65 : decode cX10_move 65 = .ok (.if_icmp .ne 7, 3) := by decide +kernel
theorem dX10_move_68 : decode cX10_move 68 = .ok (.iconst 0, 1) := by decide +kernel
theorem dX10_move_69 : decode cX10_move 69 = .ok (.goto 4, 3) := by decide +kernel
theorem dX10_move_72 : decode cX10_move 72 = .ok (.iconst 1, 1) := by decide +kernel
theorem dX10_move_73 : decode cX10_move 73 = .ok (.iadd, 1) := by decide +kernel
theorem dX10_move_74 : decode cX10_move 74 = .ok (.istore_n 2, 1) := by decide +kernel
theorem dX10_move_75 : decode cX10_move 75 = .ok (.aload_n 0, 1) := by decide +kernel
theorem dX10_move_76 : decode cX10_move 76 = .ok (.getfield 25, 3) := by decide +kernel
theorem dX10_move_79 : decode cX10_move 79 = .ok (.iload_n 3, 1) := by decide +kernel
theorem dX10_move_80 : decode cX10_move 80 = .ok (.aload_n 0, 1) := by decide +kernel
theorem dX10_move_81 : decode cX10_move 81 = .ok (.getfield 28, 3) := by decide +kernel
theorem dX10_move_84 : decode cX10_move 84 = .ok (.iload_n 3, 1) := by decide +kernel
theorem dX10_move_85 : decode cX10_move 85 = .ok (.iaload, 1) := by decide +kernel
theorem dX10_move_86 : decode cX10_move 86 = .ok (.iastore, 1) := by decide +kernel
theorem dX10_move_87 : decode cX10_move 87 = .ok (.iinc 3 1, 3) := by decide +kernel
theorem dX10_move_90 : decode cX10_move 90 = .ok (.goto (-46), 3) := by decide +kernel
theorem dX10_move_93 : decode cX10_move 93 = .ok (.iconst 0, 1) := by decide +kernel
theorem dX10_move_94 : decode cX10_move 94 = .ok (.istore_n 3, 1) := by decide +kernel
theorem dX10_move_95 : decode cX10_move 95 = .ok (.iload_n 3, 1) := by decide +kernel
theorem dX10_move_96 : decode cX10_move 96 = .ok (.iconst 3, 1) := by decide +kernel
theorem dX10_move_97 : decode cX10_move 97 = .ok (.if_icmp .ge 21, 3) := by decide +kernel
theorem dX10_move_100 : decode cX10_move 100 = .ok (.aload_n 0, 1) := by decide +kernel
theorem dX10_move_101 : decode cX10_move 101 = .ok (.getfield 16, 3) := by decide +kernel
theorem dX10_move_104 : decode cX10_move 104 = .ok (.iload_n 3, 1) := by decide +kernel
theorem dX10_move_105 : decode cX10_move 105 = .ok (.aload_n 0, 1) := by decide +kernel
theorem dX10_move_106 : decode cX10_move 106 = .ok (.getfield 46, 3) := by decide +kernel
theorem dX10_move_109 : decode cX10_move 109 = .ok (.iload_n 3, 1) := by decide +kernel
theorem dX10_move_110 : decode cX10_move 110 = .ok (.iaload, 1) := by decide +kernel
theorem dX10_move_111 : decode cX10_move 111 = .ok (.iastore, 1) := by decide +kernel
theorem dX10_move_112 : decode cX10_move 112 = .ok (.iinc 3 1, 3) := by decide +kernel
theorem dX10_move_115 : decode cX10_move 115 = .ok (.goto (-20), 3) := by decide +kernel
theorem dX10_move_118 : decode cX10_move 118 = .ok (.aload_n 0, 1) := by decide +kernel
theorem dX10_move_119 : decode cX10_move 119 = .ok (.getfield 216, 3) := by decide +kernel
theorem dX10_move_122 : decode cX10_move 122 = .ok (.iconst 5, 1) := by decide +kernel
theorem dX10_move_123 : decode cX10_move 123 = .ok (.if_icmp .ne 39, 3) := by decide +kernel
theorem dX10_move_126 : decode cX10_move 126 = .ok (.aload_n 0, 1) := by decide +kernel
theorem dX10_move_127 : decode cX10_move 127 = .ok (.getfield 13, 3) := by decide +kernel
theorem dX10_move_130 : decode cX10_move 130 = .ok (.bipush 6, 2) := by decide +kernel
theorem dX10_move_132 : decode cX10_move 132 = .ok (.aload_n 0, 1) := by decide +kernel
theorem dX10_move_133 : decode cX10_move 133 = .ok (.getfield 222, 3) := by decide +kernel
theorem dX10_move_136 : decode cX10_move 136 = .ok (.imul, 1) := by decide +kernel
theorem dX10_move_137 : decode cX10_move 137 = .ok (.aload_n 0, 1) := by decide +kernel
theorem dX10_move_138 : decode cX10_move 138 = .ok (.getfield 225, 3) := by decide +kernel
theorem dX10_move_141 : decode cX10_move 141 = .ok (.iadd, 1) := by decide +kernel
theorem dX10_move_142 : decode cX10_move 142 = .ok (.iconst 2, 1) := by decide +kernel
theorem dX10_move_143 : decode cX10_move 143 = .ok (.iastore, 1) := by decide +kernel
theorem dX10_move_144 : decode cX10_move 144 = .ok (.aload_n 0, 1) := by decide +kernel
theorem dX10_move_145 : decode cX10_move 145 = .ok (.getfield 13, 3) := by decide +kernel
theorem dX10_move_148 : decode cX10_move 148 = .ok (.bipush 6, 2) := by decide +kernel
theorem dX10_move_150 : decode cX10_move 150 = .ok (.aload_n 0, 1) := by decide +kernel
theorem dX10_move_151 : decode cX10_move 151 = .ok (.getfield 225, 3) := by decide +kernel
theorem dX10_move_154 : decode cX10_move 154 = .ok (.imul, 1) := by decide +kernel
theorem dX10_move_155 : decode cX10_move 155 = .ok (.aload_n 0, 1) := by decide +kernel
theorem dX10_move_156 : decode cX10_move 156 = .ok (.getfield 222, 3) := by decide +kernel
theorem dX10_move_159 : decode cX10_move 159 = .ok (.iadd, 1) := by decide +kernel
theorem dX10_move_160 : decode cX10_move 160 = .ok (.iconst 2, 1) := by decide +kernel
theorem dX10_move_161 : decode cX10_move 161 = .ok (.iastore, 1) := by decide +kernel
theorem dX10_move_162 : decode cX10_move 162 = .ok (.iload_n 2, 1) := by decide +kernel
theorem dX10_move_163 : decode cX10_move 163 = .ok (.ireturn, 1) := by decide +kernel
theorem dX10_judge_0 : decode cX10_judge 0 = .ok (.aload_n 0, 1) := by decide +kernel
theorem dX10_judge_1 : decode cX10_judge 1 = .ok (.iconst 0, 1) := by decide +kernel
theorem dX10_judge_2 : decode cX10_judge 2 = .ok (.putfield 99, 3) := by decide +kernel
theorem dX10_judge_5 : decode cX10_judge 5 = .ok (.aload_n 0, 1) := by decide +kernel
theorem dX10_judge_6 : decode cX10_judge 6 = .ok (.iload_n 1, 1) := by decide +kernel
theorem dX10_judge_7 : decode cX10_judge 7 = .ok (.invokevirtual 184, 3) := by decide +kernel
theorem dX10_judge_10 : decode cX10_judge 10 = .ok (.istore_n 2, 1) := by decide +kernel
theorem dX10_judge_11 : decode cX10_judge 11 = .ok (.iload_n 2, 1) := by decide +kernel
theorem dX10_judge_12 : decode cX10_judge 12 = .ok (.ifCond .ge 5, 3) := by decide +kernel
theorem dX10_judge_15 : decode cX10_judge 15 = .ok (.iload_n 2, 1) := by decide +kernel
theorem dX10_judge_16 : decode cX10_judge 16 = .ok (.ireturn, 1) := by decide +kernel
theorem dX10_judge_17 : decode cX10_judge 17 = .ok (.aload_n 0, 1) := by decide +kernel
theorem dX10_judge_18 : decode cX10_judge 18 = .ok (.getfield 89, 3) := by decide +kernel
theorem dX10_judge_21 : decode cX10_judge 21 = .ok (.iload_n 1, 1) := by decide +kernel
theorem dX10_judge_22 : decode cX10_judge 22 = .ok (.iaload, 1) := by decide +kernel
theorem dX10_judge_23 : decode cX10_judge 23 = .ok (.istore_n 3, 1) := by decide +kernel
theorem dX10_judge_24 : decode cX10_judge 24 = .ok (.aload_n 0, 1) := by decide +kernel
theorem dX10_judge_25 : decode cX10_judge 25 = .ok (.invokevirtual 204, 3) := by decide +kernel
theorem dX10_judge_28 : decode cX10_judge 28 = .ok (.iconst 0, 1) := by decide +kernel
theorem dX10_judge_29 : decode cX10_judge 29 = .ok (.istore 4, 2) := by decide +kernel
theorem dX10_judge_31 : decode cX10_judge 31 = .ok (.iload 4, 2) := by decide +kernel
theorem dX10_judge_33 : decode cX10_judge 33 = .ok (.iconst 1, 1) := by decide +kernel
theorem dX10_judge_34 : decode cX10_judge 34 = .ok (.iadd, 1) := by decide +kernel
theorem dX10_judge_35 : decode cX10_judge 35 = .ok (.iload_n 3, 1) := by decide +kernel
theorem dX10_judge_36 : decode cX10_judge 36 = .ok (.if_icmp .ge 119, 3) := by decide +kernel
theorem dX10_judge_39 : decode cX10_judge 39 = .ok (.aload_n 0, 1) := by decide +kernel
theorem dX10_judge_40 : decode cX10_judge 40 = .ok (.getfield 92, 3) := by decide +kernel
theorem dX10_judge_43 : decode cX10_judge 43 = .ok (.bipush 100, 2) := by decide +kernel
theorem dX10_judge_45 : decode cX10_judge 45 = .ok (.iload_n 1, 1) := by decide +kernel
theorem dX10_judge_46 : decode cX10_judge 46 = .ok (.imul, 1) := by decide +kernel
theorem dX10_judge_47 : decode cX10_judge 47 = .ok (.iload 4, 2) := by decide +kernel
theorem dX10_judge_49 : decode cX10_judge 49 = .ok (.iadd, 1) := by decide +kernel
theorem dX10_judge_50 : decode cX10_judge 50 = .ok (.laload, 1) := by decide +kernel
theorem dX10_judge_51 : decode cX10_judge 51 = .ok (.lstore 5, 2) := by decide +kernel
theorem dX10_judge_53 : decode cX10_judge 53 = .ok (.aload_n 0, 1) := by decide +kernel
theorem dX10_judge_54 : decode cX10_judge 54 = .ok (.getfield 92, 3) := by decide +kernel
theorem dX10_judge_57 : decode cX10_judge 57 = .ok (.bipush 100, 2) := by decide +kernel
theorem dX10_judge_59 : decode cX10_judge 59 = .ok (.iload_n 1, 1) := by decide +kernel
theorem dX10_judge_60 : decode cX10_judge 60 = .ok (.imul, 1) := by decide +kernel
theorem dX10_judge_61 : decode cX10_judge 61 = .ok (.iload 4, 2) := by decide +kernel
theorem dX10_judge_63 : decode cX10_judge 63 = .ok (.iadd, 1) := by decide +kernel
theorem dX10_judge_64 : decode cX10_judge 64 = .ok (.iconst 1, 1) := by decide +kernel
theorem dX10_judge_65 : decode cX10_judge 65 = .ok (.iadd, 1) := by decide +kernel
theorem dX10_judge_66 : decode cX10_judge 66 = .ok (.laload, 1) := by decide +kernel
theorem dX10_judge_67 : decode cX10_judge 67 = .ok (.lstore 7, 2) := by decide +kernel
theorem dX10_judge_69 : decode cX10_judge 69 = .ok (.lload 5, 2) := by decide +kernel
theorem dX10_judge_71 : decode cX10_judge 71 = .ok (.lconst 0, 1) := by decide +kernel
theorem dX10_judge_72 : decode cX10_judge 72 = .ok (.aload_n 0, 1) := by decide +kernel
theorem dX10_judge_73 : decode cX10_judge 73 = .ok (.getfield 110, 3) := by decide +kernel
theorem dX10_judge_76 : decode cX10_judge 76 = .ok (.iconst 1, 1) := by decide +kernel
theorem dX10_judge_77 : decode cX10_judge 77 = .ok (.isub, 1) := by decide +kernel
theorem dX10_judge_78 : decode cX10_judge 78 = .ok (.i2l, 1) := by decide +kernel
theorem dX10_judge_79 : decode cX10_judge 79 = .ok (.invokestatic 106, 3) := by decide +kernel
theorem dX10_judge_82 : decode cX10_judge 82 = .ok (.ifCond .ne 12, 3) := by decide +kernel
theorem dX10_judge_85 : decode cX10_judge 85 = .ok (.lload 5, 2) := by decide +kernel
theorem dX10_judge_87 : decode cX10_judge 87 = .ok (.ldc2_w 255, 3) := by decide +kernel
theorem dX10_judge_90 : decode cX10_judge 90 = .ok (.lcmp, 1) := by decide +kernel
theorem dX10_judge_91 : decode cX10_judge 91 = .ok (.ifCond .ne 19, 3) := by decide +kernel
theorem dX10_judge_94 : decode cX10_judge 94 = .ok (.lload 7, 2) := by decide +kernel
theorem dX10_judge_96 : decode cX10_judge 96 = .ok (.lconst 0, 1) := by decide +kernel
theorem dX10_judge_97 : decode cX10_judge 97 = .ok (.aload_n 0, 1) := by decide +kernel
theorem dX10_judge_98 : decode cX10_judge 98 = .ok (.getfield 103, 3) := by decide +kernel
theorem dX10_judge_101 : decode cX10_judge 101 = .ok (.iconst 1, 1) := by decide +kernel
theorem dX10_judge_102 : decode cX10_judge 102 = .ok (.isub, 1) := by decide +kernel
theorem dX10_judge_103 : decode cX10_judge 103 = .ok (.i2l, 1) := by decide +kernel
theorem dX10_judge_104 : decode cX10_judge 104 = .ok (.invokestatic 106, 3) := by decide +kernel
theorem dX10_judge_107 : decode cX10_judge 107 = .ok (.ifCond .ne 6, 3) := by decide +kernel
theorem dX10_judge_110 : decode cX10_judge 110 = .ok (.iload 4, 2) := by decide +kernel
theorem dX10_judge_112 : decode cX10_judge 112 = .ok (.ireturn, 1) := by decide +kernel
theorem dX10_judge_113 : decode cX10_judge 113 = .ok (.aload_n 0, 1) := by decide +kernel
theorem dX10_judge_114 : decode cX10_judge 114 = .ok (.getfield 28, 3) := by decide +kernel
theorem dX10_judge_117 : decode cX10_judge 117 = .ok (.lload 7, 2) := by decide +kernel
theorem dX10_judge_119 : decode cX10_judge 119 = .ok (.l2i, 1) := by decide +kernel
theorem dX10_judge_120 : decode cX10_judge 120 = .ok (.lload 5, 2) := by decide +kernel
theorem dX10_judge_122 : decode cX10_judge 122 = .ok (.ldc2_w 255, 3) := by decide +kernel
theorem dX10_judge_125 : decode cX10_judge 125 = .ok (.lcmp, 1) := by decide +kernel
theorem dX10_judge_126 : decode cX10_judge 126 = .ok (.ifCond .ne 7, 3) := by decide +kernel
theorem dX10_judge_129 : decode cX10_judge 129 = .ok (.iconst 0, 1) := by decide +kernel
theorem dX10_judge_130 : decode cX10_judge 130 = .ok (.goto 8, 3) := by decide +kernel
theorem dX10_judge_133 : decode cX10_judge 133 = .ok (.lload 5, 2) := by decide +kernel
theorem dX10_judge_135 : decode cX10_judge 135 = .ok (.l2i, 1) := by decide +kernel
theorem dX10_judge_136 : decode cX10_judge 136 = .ok (.iconst 1, 1) := by decide +kernel
theorem dX10_judge_137 : decode cX10_judge 137 = .ok (.iadd, 1) := by decide +kernel
theorem dX10_judge_138 : decode cX10_judge 138 = .ok (.iastore, 1) := by decide +kernel
theorem dX10_judge_139 : decode cX10_judge 139 = .ok (.aload_n 0, 1) := by decide +kernel
theorem dX10_judge_140 : decode cX10_judge 140 = .ok (.invokevirtual 210, 3) := by decide +kernel
theorem dX10_judge_143 : decode cX10_judge 143 = .ok (.ifCond .ne 6, 3) := by decide +kernel
theorem dX10_judge_146 : decode cX10_judge 146 = .ok (.iload 4, 2) := by decide +kernel
theorem dX10_judge_148 : decode cX10_judge 148 = .ok (.ireturn, 1) := by decide +kernel
theorem dX10_judge_149 : decode cX10_judge 149 = .ok (.iinc 4 2, 3) := by decide +kernel
theorem dX10_judge_152 : decode cX10_judge 152 = .ok (.goto (-121), 3) := by decide +kernel
theorem dX10_judge_155 : decode cX10_judge 155 = .ok (.iload_n 3, 1) := by decide +kernel
theorem dX10_judge_156 : decode cX10_judge 156 = .ok (.iconst 2, 1) := by decide +kernel
theorem dX10_judge_157 : decode cX10_judge 157 = .ok (.irem, 1) := by decide +kernel
theorem dX10_judge_158 : decode cX10_judge 158 = .ok (.iconst 1, 1) := by decide +kernel
theorem dX10_judge_159 : decode cX10_judge 159 = .ok (.if_icmp .ne 7, 3) := by decide +kernel
theorem dX10_judge_162 : decode cX10_judge 162 = .ok (.iload_n 3, 1) := by decide +kernel
theorem dX10_judge_163 : decode cX10_judge 163 = .ok (.goto 5, 3) := by decide +kernel
theorem dX10_judge_166 : decode cX10_judge 166 = .ok (.bipush (-4), 2) := by decide +kernel
theorem dX10_judge_168 : decode cX10_judge 168 = .ok (.ireturn, 1) := by decide +kernel
theorem dX10_power_0 : decode cX10_power 0 = .ok (.iconst 1, 1) := by decide +kernel
theorem dX10_power_1 : decode cX10_power 1 = .ok (.istore_n 2, 1) := by decide +kernel
theorem dX10_power_2 : decode cX10_power 2 = .ok (.iconst 0, 1) := by decide +kernel
theorem dX10_power_3 : decode cX10_power 3 = .ok (.istore_n 3, 1) := by decide +kernel
theorem dX10_power_4 : decode cX10_power 4 = .ok (.iload_n 3, 1) := by decide +kernel
theorem dX10_power_5 : decode cX10_power 5 = .ok (.iload_n 1, 1) := by decide +kernel
theorem dX10_power_6 : decode cX10_power 6 = .ok (.if_icmp .ge 13, 3) := by decide +kernel
theorem dX10_power_9 : decode cX10_power 9 = .ok (.iload_n 2, 1) := by decide +kernel
theorem dX10_power_10 : decode cX10_power 10 = .ok (.iload_n 0, 1) := by decide +kernel
theorem dX10_power_11 : decode cX10_power 11 = .ok (.imul, 1) := by decide +kernel
theorem dX10_power_12 : decode cX10_power 12 = .ok (.istore_n 2, 1) := by decide +kernel
theorem dX10_power_13 : decode cX10_power 13 = .ok (.iinc 3 1, 3) := by decide +kernel
theorem dX10_power_16 : decode cX10_power 16 = .ok (.goto (-12), 3) := by decide +kernel
theorem dX10_power_19 : decode cX10_power 19 = .ok (.iload_n 2, 1) := by decide +kernel
theorem dX10_power_20 : decode cX10_power 20 = .ok (.ireturn, 1) := by decide +kernel
theorem dX10_spread_0 : decode cX10_spread 0 = .ok (.iload_n 1, 1) := by decide +kernel
theorem dX10_spread_1 : decode cX10_spread 1 = .ok (.istore_n 3, 1) := by decide +kernel
theorem dX10_spread_2 : decode cX10_spread 2 = .ok (.aload_n 0, 1) := by decide +kernel
theorem dX10_spread_3 : decode cX10_spread 3 = .ok (.getfield 103, 3) := by decide +kernel
theorem dX10_spread_6 : decode cX10_spread 6 = .ok (.iconst 1, 1) := by decide +kernel
theorem dX10_spread_7 : decode cX10_spread 7 = .ok (.isub, 1) := by decide +kernel
theorem dX10_spread_8 : decode cX10_spread 8 = .ok (.istore 4, 2) := by decide +kernel
theorem dX10_spread_10 : decode cX10_spread 10 = .ok (.iload 4, 2) := by decide +kernel
theorem dX10_spread_12 : decode cX10_spread 12 = .ok (.ifCond .lt 23, 3) := by decide +kernel
theorem dX10_spread_15 : decode cX10_spread 15 = .ok (.aload_n 0, 1) := by decide +kernel
theorem dX10_spread_16 : decode cX10_spread 16 = .ok (.getfield 49, 3) := by decide +kernel
theorem dX10_spread_19 : decode cX10_spread 19 = .ok (.iload 4, 2) := by decide +kernel
theorem dX10_spread_21 : decode cX10_spread 21 = .ok (.iload_n 3, 1) := by decide +kernel
theorem dX10_spread_22 : decode cX10_spread 22 = .ok (.iload_n 2, 1) := by decide +kernel
theorem dX10_spread_23 : decode cX10_spread 23 = .ok (.irem, 1) := by decide +kernel
theorem dX10_spread_24 : decode cX10_spread 24 = .ok (.iastore, 1) := by decide +kernel
theorem dX10_spread_25 : decode cX10_spread 25 = .ok (.iload_n 3, 1) := by decide +kernel
theorem dX10_spread_26 : decode cX10_spread 26 = .ok (.iload_n 2, 1) := by decide +kernel
theorem dX10_spread_27 : decode cX10_spread 27 = .ok (.idiv, 1) := by decide +kernel
theorem dX10_spread_28 : decode cX10_spread 28 = .ok (.istore_n 3, 1) := by decide +kernel
theorem dX10_spread_29 : decode cX10_spread 29 = .ok (.iinc 4 (-1), 3) := by decide +kernel
theorem dX10_spread_32 : decode cX10_spread 32 = .ok (.goto (-22), 3) := by decide +kernel
theorem dX10_spread_35 : decode cX10_spread 35 = .ok (.return_, 1) := by decide +kernel
theorem dX10_isColouring_0 : decode cX10_isColouring 0 = .ok (.iconst 1, 1) := by decide +kernel
theorem dX10_isColouring_1 : decode cX10_isColouring 1 = .ok (.istore_n 1, 1) := by decide +kernel
theorem dX10_isColouring_2 : decode cX10_isColouring 2 = .ok (.iconst 0, 1) := by decide +kernel
theorem dX10_isColouring_3 : decode cX10_isColouring 3 = .ok (.istore_n 2, 1) := by decide +kernel
theorem dX10_isColouring_4 : decode cX10_isColouring 4 = .ok (.iload_n 2, 1) := by decide +kernel
theorem dX10_isColouring_5 : decode cX10_isColouring 5 = .ok (.aload_n 0, 1) := by decide +kernel
theorem dX10_isColouring_6 : decode cX10_isColouring 6 = .ok (.getfield 103, 3) := by decide +kernel
theorem dX10_isColouring_9 : decode cX10_isColouring 9 = .ok (.if_icmp .ge 56, 3) := by decide +kernel
theorem dX10_isColouring_12 : decode cX10_isColouring 12 = .ok (.iconst 0, 1) := by decide +kernel
theorem dX10_isColouring_13 : decode cX10_isColouring 13 = .ok (.istore_n 3, 1) := by decide +kernel
theorem dX10_isColouring_14 : decode cX10_isColouring 14 = .ok (.iload_n 3, 1) := by decide +kernel
theorem dX10_isColouring_15 : decode cX10_isColouring 15 = .ok (.iload_n 2, 1) := by decide +kernel
theorem dX10_isColouring_16 : decode cX10_isColouring 16 = .ok (.if_icmp .ge 43, 3) := by decide +kernel
theorem dX10_isColouring_19 : decode cX10_isColouring 19 = .ok (.iload_n 1, 1) := by decide +kernel
theorem dX10_isColouring_20 : decode cX10_isColouring 20 = .ok (.ifCond .eq 31, 3) := by decide +kernel
theorem dX10_isColouring_23 : decode cX10_isColouring 23 = .ok (.aload_n 0, 1) := by decide +kernel
theorem dX10_isColouring_24 : decode cX10_isColouring 24 = .ok (.getfield 49, 3) := by decide +kernel
theorem dX10_isColouring_27 : decode cX10_isColouring 27 = .ok (.iload_n 2, 1) := by decide +kernel
theorem dX10_isColouring_28 : decode cX10_isColouring 28 = .ok (.iaload, 1) := by decide +kernel
theorem dX10_isColouring_29 : decode cX10_isColouring 29 = .ok (.aload_n 0, 1) := by decide +kernel
theorem dX10_isColouring_30 : decode cX10_isColouring 30 = .ok (.getfield 49, 3) := by decide +kernel
theorem dX10_isColouring_33 : decode cX10_isColouring 33 = .ok (.iload_n 3, 1) := by decide +kernel
theorem dX10_isColouring_34 : decode cX10_isColouring 34 = .ok (.iaload, 1) := by decide +kernel
theorem dX10_isColouring_35 : decode cX10_isColouring 35 = .ok (.if_icmp .ne 12, 3) := by decide +kernel
theorem dX10_isColouring_38 : decode cX10_isColouring 38 = .ok (.aload_n 0, 1) := by decide +kernel
theorem dX10_isColouring_39 : decode cX10_isColouring 39 = .ok (.iload_n 2, 1) := by decide +kernel
theorem dX10_isColouring_40 : decode cX10_isColouring 40 = .ok (.iload_n 3, 1) := by decide +kernel
theorem dX10_isColouring_41 : decode cX10_isColouring 41 = .ok (.invokevirtual 119, 3) := by decide +kernel
theorem dX10_isColouring_44 : decode cX10_isColouring 44 = .ok (.ifCond .ne 7, 3) := by decide +kernel
theorem dX10_isColouring_47 : decode cX10_isColouring 47 = .ok (.iconst 1, 1) := by decide +kernel
theorem dX10_isColouring_48 : decode cX10_isColouring 48 = .ok (.goto 4, 3) := by decide +kernel
theorem dX10_isColouring_51 : decode cX10_isColouring 51 = .ok (.iconst 0, 1) := by decide +kernel
theorem dX10_isColouring_52 : decode cX10_isColouring 52 = .ok (.istore_n 1, 1) := by decide +kernel
theorem dX10_isColouring_53 : decode cX10_isColouring 53 = .ok (.iinc 3 1, 3) := by decide +kernel
theorem dX10_isColouring_56 : decode cX10_isColouring 56 = .ok (.goto (-42), 3) := by decide +kernel
theorem dX10_isColouring_59 : decode cX10_isColouring 59 = .ok (.iinc 2 1, 3) := by decide +kernel
theorem dX10_isColouring_62 : decode cX10_isColouring 62 = .ok (.goto (-58), 3) := by decide +kernel
theorem dX10_isColouring_65 : decode cX10_isColouring 65 = .ok (.iload_n 1, 1) := by decide +kernel
theorem dX10_isColouring_66 : decode cX10_isColouring 66 = .ok (.ireturn, 1) := by decide +kernel
theorem dX10_fewest_0 : decode cX10_fewest 0 = .ok (.aload_n 0, 1) := by decide +kernel
theorem dX10_fewest_1 : decode cX10_fewest 1 = .ok (.iconst 0, 1) := by decide +kernel
theorem dX10_fewest_2 : decode cX10_fewest 2 = .ok (.putfield 99, 3) := by decide +kernel
theorem dX10_fewest_5 : decode cX10_fewest 5 = .ok (.iload_n 1, 1) := by decide +kernel
theorem dX10_fewest_6 : decode cX10_fewest 6 = .ok (.iconst (-1), 1) := by decide +kernel
theorem dX10_fewest_7 : decode cX10_fewest 7 = .ok (.if_icmp .eq 13, 3) := by decide +kernel
theorem dX10_fewest_10 : decode cX10_fewest 10 = .ok (.aload_n 0, 1) := by decide +kernel
theorem dX10_fewest_11 : decode cX10_fewest 11 = .ok (.iload_n 1, 1) := by decide +kernel
theorem dX10_fewest_12 : decode cX10_fewest 12 = .ok (.invokevirtual 178, 3) := by decide +kernel
theorem dX10_fewest_15 : decode cX10_fewest 15 = .ok (.ifCond .ne 5, 3) := by decide +kernel
theorem dX10_fewest_18 : decode cX10_fewest 18 = .ok (.iconst (-1), 1) := by decide +kernel
theorem dX10_fewest_19 : decode cX10_fewest 19 = .ok (.ireturn, 1) := by decide +kernel
theorem dX10_fewest_20 : decode cX10_fewest 20 = .ok (.iconst 0, 1) := by decide +kernel
theorem dX10_fewest_21 : decode cX10_fewest 21 = .ok (.istore_n 2, 1) := by decide +kernel
theorem dX10_fewest_22 : decode cX10_fewest 22 = .ok (.iload_n 2, 1) := by decide +kernel
theorem dX10_fewest_23 : decode cX10_fewest 23 = .ok (.aload_n 0, 1) := by decide +kernel
theorem dX10_fewest_24 : decode cX10_fewest 24 = .ok (.getfield 103, 3) := by decide +kernel
theorem dX10_fewest_27 : decode cX10_fewest 27 = .ok (.if_icmp .gt 70, 3) := by decide +kernel
theorem dX10_fewest_30 : decode cX10_fewest 30 = .ok (.iload_n 2, 1) := by decide +kernel
theorem dX10_fewest_31 : decode cX10_fewest 31 = .ok (.aload_n 0, 1) := by decide +kernel
theorem dX10_fewest_32 : decode cX10_fewest 32 = .ok (.getfield 103, 3) := by decide +kernel
theorem dX10_fewest_35 : decode cX10_fewest 35 = .ok (.invokestatic 257, 3) := by decide +kernel
theorem dX10_fewest_38 : decode cX10_fewest 38 = .ok (.istore_n 3, 1) := by decide +kernel
theorem dX10_fewest_39 : decode cX10_fewest 39 = .ok (.iconst 0, 1) := by decide +kernel
theorem dX10_fewest_40 : decode cX10_fewest 40 = .ok (.istore 4, 2) := by decide +kernel
theorem dX10_fewest_42 : decode cX10_fewest 42 = .ok (.iload 4, 2) := by decide +kernel
theorem dX10_fewest_44 : decode cX10_fewest 44 = .ok (.iload_n 3, 1) := by decide +kernel
theorem dX10_fewest_45 : decode cX10_fewest 45 = .ok (.if_icmp .ge 46, 3) := by decide +kernel
theorem dX10_fewest_48 : decode cX10_fewest 48 = .ok (.aload_n 0, 1) := by decide +kernel
theorem dX10_fewest_49 : decode cX10_fewest 49 = .ok (.iload 4, 2) := by decide +kernel
theorem dX10_fewest_51 : decode cX10_fewest 51 = .ok (.iload_n 2, 1) := by decide +kernel
theorem dX10_fewest_52 : decode cX10_fewest 52 = .ok (.ifCond .ne 7, 3) := by decide +kernel
theorem dX10_fewest_55 : decode cX10_fewest 55 = .ok (.iconst 1, 1) := by decide +kernel
theorem dX10_fewest_56 : decode cX10_fewest 56 = .ok (.goto 4, 3) := by decide +kernel
theorem dX10_fewest_59 : decode cX10_fewest 59 = .ok (.iload_n 2, 1) := by decide +kernel
theorem dX10_fewest_60 : decode cX10_fewest 60 = .ok (.invokevirtual 261, 3) := by decide +kernel
theorem dX10_fewest_63 : decode cX10_fewest 63 = .ok (.aload_n 0, 1) := by decide +kernel
theorem dX10_fewest_64 : decode cX10_fewest 64 = .ok (.invokevirtual 264, 3) := by decide +kernel
theorem dX10_fewest_67 : decode cX10_fewest 67 = .ok (.ifCond .eq 18, 3) := by decide +kernel
theorem dX10_fewest_70 : decode cX10_fewest 70 = .ok (.iload_n 1, 1) := by decide +kernel
theorem dX10_fewest_71 : decode cX10_fewest 71 = .ok (.ifCond .ge 7, 3) := by decide +kernel
theorem dX10_fewest_74 : decode cX10_fewest 74 = .ok (.iload_n 2, 1) := by decide +kernel
theorem dX10_fewest_75 : decode cX10_fewest 75 = .ok (.goto 9, 3) := by decide +kernel
theorem dX10_fewest_78 : decode cX10_fewest 78 = .ok (.aload_n 0, 1) := by decide +kernel
theorem dX10_fewest_79 : decode cX10_fewest 79 = .ok (.getfield 49, 3) := by decide +kernel
theorem dX10_fewest_82 : decode cX10_fewest 82 = .ok (.iload_n 1, 1) := by decide +kernel
theorem dX10_fewest_83 : decode cX10_fewest 83 = .ok (.iaload, 1) := by decide +kernel
theorem dX10_fewest_84 : decode cX10_fewest 84 = .ok (.ireturn, 1) := by decide +kernel
theorem dX10_fewest_85 : decode cX10_fewest 85 = .ok (.iinc 4 1, 3) := by decide +kernel
theorem dX10_fewest_88 : decode cX10_fewest 88 = .ok (.goto (-46), 3) := by decide +kernel
theorem dX10_fewest_91 : decode cX10_fewest 91 = .ok (.iinc 2 1, 3) := by decide +kernel
theorem dX10_fewest_94 : decode cX10_fewest 94 = .ok (.goto (-72), 3) := by decide +kernel
theorem dX10_fewest_97 : decode cX10_fewest 97 = .ok (.iconst 0, 1) := by decide +kernel
theorem dX10_fewest_98 : decode cX10_fewest 98 = .ok (.ireturn, 1) := by decide +kernel
theorem dX10_most_0 : decode cX10_most 0 = .ok (.aload_n 0, 1) := by decide +kernel
theorem dX10_most_1 : decode cX10_most 1 = .ok (.iconst 0, 1) := by decide +kernel
theorem dX10_most_2 : decode cX10_most 2 = .ok (.putfield 99, 3) := by decide +kernel
theorem dX10_most_5 : decode cX10_most 5 = .ok (.aload_n 0, 1) := by decide +kernel
theorem dX10_most_6 : decode cX10_most 6 = .ok (.iload_n 1, 1) := by decide +kernel
theorem dX10_most_7 : decode cX10_most 7 = .ok (.invokevirtual 181, 3) := by decide +kernel
theorem dX10_most_10 : decode cX10_most 10 = .ok (.ifCond .eq 13, 3) := by decide +kernel
theorem dX10_most_13 : decode cX10_most 13 = .ok (.iload_n 2, 1) := by decide +kernel
theorem dX10_most_14 : decode cX10_most 14 = .ok (.i2l, 1) := by decide +kernel
theorem dX10_most_15 : decode cX10_most 15 = .ok (.lconst 0, 1) := by decide +kernel
theorem dX10_most_16 : decode cX10_most 16 = .ok (.lconst 1, 1) := by decide +kernel
theorem dX10_most_17 : decode cX10_most 17 = .ok (.invokestatic 106, 3) := by decide +kernel
theorem dX10_most_20 : decode cX10_most 20 = .ok (.ifCond .ne 5, 3) := by decide +kernel
theorem dX10_most_23 : decode cX10_most 23 = .ok (.iconst (-1), 1) := by decide +kernel
theorem dX10_most_24 : decode cX10_most 24 = .ok (.ireturn, 1) := by decide +kernel
theorem dX10_most_25 : decode cX10_most 25 = .ok (.iconst 0, 1) := by decide +kernel
theorem dX10_most_26 : decode cX10_most 26 = .ok (.istore_n 3, 1) := by decide +kernel
theorem dX10_most_27 : decode cX10_most 27 = .ok (.iconst 0, 1) := by decide +kernel
theorem dX10_most_28 : decode cX10_most 28 = .ok (.istore 4, 2) := by decide +kernel
theorem dX10_most_30 : decode cX10_most 30 = .ok (.iconst 1, 1) := by decide +kernel
theorem dX10_most_31 : decode cX10_most 31 = .ok (.istore 5, 2) := by decide +kernel
theorem dX10_most_33 : decode cX10_most 33 = .ok (.iload 5, 2) := by decide +kernel
theorem dX10_most_35 : decode cX10_most 35 = .ok (.iconst 1, 1) := by decide +kernel
theorem dX10_most_36 : decode cX10_most 36 = .ok (.aload_n 0, 1) := by decide +kernel
theorem dX10_most_37 : decode cX10_most 37 = .ok (.getfield 103, 3) := by decide +kernel
theorem dX10_most_40 : decode cX10_most 40 = .ok (.ishl, 1) := by decide +kernel
theorem dX10_most_41 : decode cX10_most 41 = .ok (.if_icmp .ge 164, 3) := by decide +kernel
theorem dX10_most_44 : decode cX10_most 44 = .ok (.iconst 1, 1) := by decide +kernel
theorem dX10_most_45 : decode cX10_most 45 = .ok (.istore 6, 2) := by decide +kernel
theorem dX10_most_47 : decode cX10_most 47 = .ok (.iconst 0, 1) := by decide +kernel
theorem dX10_most_48 : decode cX10_most 48 = .ok (.istore 7, 2) := by decide +kernel
theorem dX10_most_50 : decode cX10_most 50 = .ok (.iconst 0, 1) := by decide +kernel
theorem dX10_most_51 : decode cX10_most 51 = .ok (.istore 8, 2) := by decide +kernel
theorem dX10_most_53 : decode cX10_most 53 = .ok (.iload 8, 2) := by decide +kernel
theorem dX10_most_55 : decode cX10_most 55 = .ok (.aload_n 0, 1) := by decide +kernel
theorem dX10_most_56 : decode cX10_most 56 = .ok (.getfield 103, 3) := by decide +kernel
theorem dX10_most_59 : decode cX10_most 59 = .ok (.if_icmp .ge 121, 3) := by decide +kernel
theorem dX10_most_62 : decode cX10_most 62 = .ok (.iload 6, 2) := by decide +kernel
theorem dX10_most_64 : decode cX10_most 64 = .ok (.ifCond .eq 116, 3) := by decide +kernel
theorem dX10_most_67 : decode cX10_most 67 = .ok (.iload 5, 2) := by decide +kernel
theorem dX10_most_69 : decode cX10_most 69 = .ok (.iload 8, 2) := by decide +kernel
theorem dX10_most_71 : decode cX10_most 71 = .ok (.ishr, 1) := by decide +kernel
theorem dX10_most_72 : decode cX10_most 72 = .ok (.iconst 1, 1) := by decide +kernel
theorem dX10_most_73 : decode cX10_most 73 = .ok (.iand, 1) := by decide +kernel
theorem dX10_most_74 : decode cX10_most 74 = .ok (.iconst 1, 1) := by decide +kernel
theorem dX10_most_75 : decode cX10_most 75 = .ok (.if_icmp .ne 99, 3) := by decide +kernel
theorem dX10_most_78 : decode cX10_most 78 = .ok (.iload 7, 2) := by decide +kernel
theorem dX10_most_80 : decode cX10_most 80 = .ok (.aload_n 0, 1) := by decide +kernel
theorem dX10_most_81 : decode cX10_most 81 = .ok (.getfield 22, 3) := by decide +kernel
theorem dX10_most_84 : decode cX10_most 84 = .ok (.bipush 6, 2) := by decide +kernel
theorem dX10_most_86 : decode cX10_most 86 = .ok (.iload_n 1, 1) := by decide +kernel
theorem dX10_most_87 : decode cX10_most 87 = .ok (.imul, 1) := by decide +kernel
theorem dX10_most_88 : decode cX10_most 88 = .ok (.iload 8, 2) := by decide +kernel
theorem dX10_most_90 : decode cX10_most 90 = .ok (.iadd, 1) := by decide +kernel
theorem dX10_most_91 : decode cX10_most 91 = .ok (.iaload, 1) := by decide +kernel
theorem dX10_most_92 : decode cX10_most 92 = .ok (.iadd, 1) := by decide +kernel
theorem dX10_most_93 : decode cX10_most 93 = .ok (.istore 7, 2) := by decide +kernel
theorem dX10_most_95 : decode cX10_most 95 = .ok (.aload_n 0, 1) := by decide +kernel
theorem dX10_most_96 : decode cX10_most 96 = .ok (.getfield 25, 3) := by decide +kernel
theorem dX10_most_99 : decode cX10_most 99 = .ok (.iload 8, 2) := by decide +kernel
theorem dX10_most_101 : decode cX10_most 101 = .ok (.iaload, 1) := by decide +kernel
theorem dX10_most_102 : decode cX10_most 102 = .ok (.ifCond .eq 16, 3) := by decide +kernel
theorem dX10_most_105 : decode cX10_most 105 = .ok (.aload_n 0, 1) := by decide +kernel
theorem dX10_most_106 : decode cX10_most 106 = .ok (.getfield 25, 3) := by decide +kernel
theorem dX10_most_109 : decode cX10_most 109 = .ok (.iload 8, 2) := by decide +kernel
theorem dX10_most_111 : decode cX10_most 111 = .ok (.iaload, 1) := by decide +kernel
theorem dX10_most_112 : decode cX10_most 112 = .ok (.iload_n 1, 1) := by decide +kernel
theorem dX10_most_113 : decode cX10_most 113 = .ok (.iconst 1, 1) := by decide +kernel
theorem dX10_most_114 : decode cX10_most 114 = .ok (.iadd, 1) := by decide +kernel
theorem dX10_most_115 : decode cX10_most 115 = .ok (.if_icmp .ne 7, 3) := by decide +kernel
theorem dX10_most_118 : decode cX10_most 118 = .ok (.iconst 1, 1) := by decide +kernel
theorem dX10_most_119 : decode cX10_most 119 = .ok (.goto 4, 3) := by decide +kernel
theorem dX10_most_122 : decode cX10_most 122 = .ok (.iconst 0, 1) := by decide +kernel
theorem dX10_most_123 : decode cX10_most 123 = .ok (.istore 6, 2) := by decide +kernel
theorem dX10_most_125 : decode cX10_most 125 = .ok (.iconst 0, 1) := by decide +kernel
theorem dX10_most_126 : decode cX10_most 126 = .ok (.istore 9, 2) := by decide +kernel
theorem dX10_most_128 : decode cX10_most 128 = .ok (.iload 9, 2) := by decide +kernel
theorem dX10_most_130 : decode cX10_most 130 = .ok (.iload 8, 2) := by decide +kernel
theorem dX10_most_132 : decode cX10_most 132 = .ok (.if_icmp .ge 42, 3) := by decide +kernel
theorem dX10_most_135 : decode cX10_most 135 = .ok (.iload 6, 2) := by decide +kernel
theorem dX10_most_137 : decode cX10_most 137 = .ok (.ifCond .eq 28, 3) := by decide +kernel
theorem dX10_most_140 : decode cX10_most 140 = .ok (.iload 5, 2) := by decide +kernel
theorem dX10_most_142 : decode cX10_most 142 = .ok (.iload 9, 2) := by decide +kernel
theorem dX10_most_144 : decode cX10_most 144 = .ok (.ishr, 1) := by decide +kernel
theorem dX10_most_145 : decode cX10_most 145 = .ok (.iconst 1, 1) := by decide +kernel
theorem dX10_most_146 : decode cX10_most 146 = .ok (.iand, 1) := by decide +kernel
theorem dX10_most_147 : decode cX10_most 147 = .ok (.ifCond .eq 14, 3) := by decide +kernel
theorem dX10_most_150 : decode cX10_most 150 = .ok (.aload_n 0, 1) := by decide +kernel
theorem dX10_most_151 : decode cX10_most 151 = .ok (.iload 8, 2) := by decide +kernel
theorem dX10_most_153 : decode cX10_most 153 = .ok (.iload 9, 2) := by decide +kernel
theorem dX10_most_155 : decode cX10_most 155 = .ok (.invokevirtual 119, 3) := by decide +kernel
theorem dX10_most_158 : decode cX10_most 158 = .ok (.ifCond .ne 7, 3) := by decide +kernel
theorem dX10_most_161 : decode cX10_most 161 = .ok (.iconst 1, 1) := by decide +kernel
theorem dX10_most_162 : decode cX10_most 162 = .ok (.goto 4, 3) := by decide +kernel
theorem dX10_most_165 : decode cX10_most 165 = .ok (.iconst 0, 1) := by decide +kernel
theorem dX10_most_166 : decode cX10_most 166 = .ok (.istore 6, 2) := by decide +kernel
theorem dX10_most_168 : decode cX10_most 168 = .ok (.iinc 9 1, 3) := by decide +kernel
theorem dX10_most_171 : decode cX10_most 171 = .ok (.goto (-43), 3) := by decide +kernel
theorem dX10_most_174 : decode cX10_most 174 = .ok (.iinc 8 1, 3) := by decide +kernel
theorem dX10_most_177 : decode cX10_most 177 = .ok (.goto (-124), 3) := by decide +kernel
theorem dX10_most_180 : decode cX10_most 180 = .ok (.iload 6, 2) := by decide +kernel
theorem dX10_most_182 : decode cX10_most 182 = .ok (.ifCond .eq 17, 3) := by decide +kernel
theorem dX10_most_185 : decode cX10_most 185 = .ok (.iload 7, 2) := by decide +kernel
theorem dX10_most_187 : decode cX10_most 187 = .ok (.iload 4, 2) := by decide +kernel
theorem dX10_most_189 : decode cX10_most 189 = .ok (.if_icmp .le 10, 3) := by decide +kernel
theorem dX10_most_192 : decode cX10_most 192 = .ok (.iload 5, 2) := by decide +kernel
theorem dX10_most_194 : decode cX10_most 194 = .ok (.istore_n 3, 1) := by decide +kernel
theorem dX10_most_195 : decode cX10_most 195 = .ok (.iload 7, 2) := by decide +kernel
theorem dX10_most_197 : decode cX10_most 197 = .ok (.istore 4, 2) := by decide +kernel
theorem dX10_most_199 : decode cX10_most 199 = .ok (.iinc 5 1, 3) := by decide +kernel
theorem dX10_most_202 : decode cX10_most 202 = .ok (.goto (-169), 3) := by decide +kernel
theorem dX10_most_205 : decode cX10_most 205 = .ok (.iload_n 2, 1) := by decide +kernel
theorem dX10_most_206 : decode cX10_most 206 = .ok (.ifCond .ne 7, 3) := by decide +kernel
theorem dX10_most_209 : decode cX10_most 209 = .ok (.iload_n 3, 1) := by decide +kernel
theorem dX10_most_210 : decode cX10_most 210 = .ok (.goto 5, 3) := by decide +kernel
theorem dX10_most_213 : decode cX10_most 213 = .ok (.iload 4, 2) := by decide +kernel
theorem dX10_most_215 : decode cX10_most 215 = .ok (.ireturn, 1) := by decide +kernel
theorem dX10_findBest_0 : decode cX10_findBest 0 = .ok (.aload_n 0, 1) := by decide +kernel
theorem dX10_findBest_1 : decode cX10_findBest 1 = .ok (.iconst (-1), 1) := by decide +kernel
theorem dX10_findBest_2 : decode cX10_findBest 2 = .ok (.putfield 267, 3) := by decide +kernel
theorem dX10_findBest_5 : decode cX10_findBest 5 = .ok (.aload_n 0, 1) := by decide +kernel
theorem dX10_findBest_6 : decode cX10_findBest 6 = .ok (.iconst (-1), 1) := by decide +kernel
theorem dX10_findBest_7 : decode cX10_findBest 7 = .ok (.putfield 270, 3) := by decide +kernel
theorem dX10_findBest_10 : decode cX10_findBest 10 = .ok (.aload_n 0, 1) := by decide +kernel
theorem dX10_findBest_11 : decode cX10_findBest 11 = .ok (.getfield 110, 3) := by decide +kernel
theorem dX10_findBest_14 : decode cX10_findBest 14 = .ok (.iconst 1, 1) := by decide +kernel
theorem dX10_findBest_15 : decode cX10_findBest 15 = .ok (.iadd, 1) := by decide +kernel
theorem dX10_findBest_16 : decode cX10_findBest 16 = .ok (.aload_n 0, 1) := by decide +kernel
theorem dX10_findBest_17 : decode cX10_findBest 17 = .ok (.getfield 103, 3) := by decide +kernel
theorem dX10_findBest_20 : decode cX10_findBest 20 = .ok (.invokestatic 257, 3) := by decide +kernel
theorem dX10_findBest_23 : decode cX10_findBest 23 = .ok (.istore_n 2, 1) := by decide +kernel
theorem dX10_findBest_24 : decode cX10_findBest 24 = .ok (.iconst 0, 1) := by decide +kernel
theorem dX10_findBest_25 : decode cX10_findBest 25 = .ok (.istore_n 3, 1) := by decide +kernel
theorem dX10_findBest_26 : decode cX10_findBest 26 = .ok (.iload_n 3, 1) := by decide +kernel
theorem dX10_findBest_27 : decode cX10_findBest 27 = .ok (.iload_n 2, 1) := by decide +kernel
theorem dX10_findBest_28 : decode cX10_findBest 28 = .ok (.if_icmp .ge 134, 3) := by decide +kernel
theorem dX10_findBest_31 : decode cX10_findBest 31 = .ok (.aload_n 0, 1) := by decide +kernel
theorem dX10_findBest_32 : decode cX10_findBest 32 = .ok (.iload_n 3, 1) := by decide +kernel
theorem dX10_findBest_33 : decode cX10_findBest 33 = .ok (.aload_n 0, 1) := by decide +kernel
theorem dX10_findBest_34 : decode cX10_findBest 34 = .ok (.getfield 110, 3) := by decide +kernel
theorem dX10_findBest_37 : decode cX10_findBest 37 = .ok (.iconst 1, 1) := by decide +kernel
theorem dX10_findBest_38 : decode cX10_findBest 38 = .ok (.iadd, 1) := by decide +kernel
theorem dX10_findBest_39 : decode cX10_findBest 39 = .ok (.invokevirtual 261, 3) := by decide +kernel
theorem dX10_findBest_42 : decode cX10_findBest 42 = .ok (.iconst 1, 1) := by decide +kernel
theorem dX10_findBest_43 : decode cX10_findBest 43 = .ok (.istore 4, 2) := by decide +kernel
theorem dX10_findBest_45 : decode cX10_findBest 45 = .ok (.iconst 0, 1) := by decide +kernel
theorem dX10_findBest_46 : decode cX10_findBest 46 = .ok (.istore 5, 2) := by decide +kernel
theorem dX10_findBest_48 : decode cX10_findBest 48 = .ok (.iload 5, 2) := by decide +kernel
theorem dX10_findBest_50 : decode cX10_findBest 50 = .ok (.aload_n 0, 1) := by decide +kernel
theorem dX10_findBest_51 : decode cX10_findBest 51 = .ok (.getfield 103, 3) := by decide +kernel
theorem dX10_findBest_54 : decode cX10_findBest 54 = .ok (.if_icmp .ge 66, 3) := by decide +kernel
theorem dX10_findBest_57 : decode cX10_findBest 57 = .ok (.aload_n 0, 1) := by decide +kernel
theorem dX10_findBest_58 : decode cX10_findBest 58 = .ok (.getfield 28, 3) := by decide +kernel
theorem dX10_findBest_61 : decode cX10_findBest 61 = .ok (.iload 5, 2) := by decide +kernel
theorem dX10_findBest_63 : decode cX10_findBest 63 = .ok (.aload_n 0, 1) := by decide +kernel
theorem dX10_findBest_64 : decode cX10_findBest 64 = .ok (.getfield 49, 3) := by decide +kernel
theorem dX10_findBest_67 : decode cX10_findBest 67 = .ok (.iload 5, 2) := by decide +kernel
theorem dX10_findBest_69 : decode cX10_findBest 69 = .ok (.iaload, 1) := by decide +kernel
theorem dX10_findBest_70 : decode cX10_findBest 70 = .ok (.iastore, 1) := by decide +kernel
theorem dX10_findBest_71 : decode cX10_findBest 71 = .ok (.iload 4, 2) := by decide +kernel
theorem dX10_findBest_73 : decode cX10_findBest 73 = .ok (.ifCond .eq 38, 3) := by decide +kernel
theorem dX10_findBest_76 : decode cX10_findBest 76 = .ok (.iload_n 1, 1) := by decide +kernel
theorem dX10_findBest_77 : decode cX10_findBest 77 = .ok (.ifCond .eq 30, 3) := by decide +kernel
theorem dX10_findBest_80 : decode cX10_findBest 80 = .ok (.aload_n 0, 1) := by decide +kernel
theorem dX10_findBest_81 : decode cX10_findBest 81 = .ok (.getfield 25, 3) := by decide +kernel
theorem dX10_findBest_84 : decode cX10_findBest 84 = .ok (.iload 5, 2) := by decide +kernel
theorem dX10_findBest_86 : decode cX10_findBest 86 = .ok (.iaload, 1) := by decide +kernel
theorem dX10_findBest_87 : decode cX10_findBest 87 = .ok (.ifCond .eq 20, 3) := by decide +kernel
theorem dX10_findBest_90 : decode cX10_findBest 90 = .ok (.aload_n 0, 1) := by decide +kernel
theorem dX10_findBest_91 : decode cX10_findBest 91 = .ok (.getfield 25, 3) := by decide +kernel
theorem dX10_findBest_94 : decode cX10_findBest 94 = .ok (.iload 5, 2) := by decide +kernel
theorem dX10_findBest_96 : decode cX10_findBest 96 = .ok (.iaload, 1) := by decide +kernel
theorem dX10_findBest_97 : decode cX10_findBest 97 = .ok (.aload_n 0, 1) := by decide +kernel
theorem dX10_findBest_98 : decode cX10_findBest 98 = .ok (.getfield 49, 3) := by decide +kernel
theorem dX10_findBest_101 : decode cX10_findBest 101 = .ok (.iload 5, 2) := by decide +kernel
theorem dX10_findBest_103 : decode cX10_findBest 103 = .ok (.iaload, 1) := by decide +kernel
theorem dX10_findBest_104 : decode cX10_findBest 104 = .ok (.if_icmp .ne 7, 3) := by decide +kernel
theorem dX10_findBest_107 : decode cX10_findBest 107 = .ok (.iconst 1, 1) := by decide +kernel
theorem dX10_findBest_108 : decode cX10_findBest 108 = .ok (.goto 4, 3) := by decide +kernel
theorem dX10_findBest_111 : decode cX10_findBest 111 = .ok (.iconst 0, 1) := by decide +kernel
theorem dX10_findBest_112 : decode cX10_findBest 112 = .ok (.istore 4, 2) := by decide +kernel
theorem dX10_findBest_114 : decode cX10_findBest 114 = .ok (.iinc 5 1, 3) := by decide +kernel
theorem dX10_findBest_117 : decode cX10_findBest 117 = .ok (.goto (-69), 3) := by decide +kernel
theorem dX10_findBest_120 : decode cX10_findBest 120 = .ok (.iload 4, 2) := by decide +kernel
theorem dX10_findBest_122 : decode cX10_findBest 122 = .ok (.ifCond .eq 34, 3) := by decide +kernel
theorem dX10_findBest_125 : decode cX10_findBest 125 = .ok (.aload_n 0, 1) := by decide +kernel
theorem dX10_findBest_126 : decode cX10_findBest 126 = .ok (.invokevirtual 210, 3) := by decide +kernel
theorem dX10_findBest_129 : decode cX10_findBest 129 = .ok (.ifCond .eq 27, 3) := by decide +kernel
theorem dX10_findBest_132 : decode cX10_findBest 132 = .ok (.aload_n 0, 1) := by decide +kernel
theorem dX10_findBest_133 : decode cX10_findBest 133 = .ok (.invokevirtual 273, 3) := by decide +kernel
theorem dX10_findBest_136 : decode cX10_findBest 136 = .ok (.aload_n 0, 1) := by decide +kernel
theorem dX10_findBest_137 : decode cX10_findBest 137 = .ok (.getfield 270, 3) := by decide +kernel
theorem dX10_findBest_140 : decode cX10_findBest 140 = .ok (.if_icmp .le 16, 3) := by decide +kernel
theorem dX10_findBest_143 : decode cX10_findBest 143 = .ok (.aload_n 0, 1) := by decide +kernel
theorem dX10_findBest_144 : decode cX10_findBest 144 = .ok (.iload_n 3, 1) := by decide +kernel
theorem dX10_findBest_145 : decode cX10_findBest 145 = .ok (.putfield 267, 3) := by decide +kernel
theorem dX10_findBest_148 : decode cX10_findBest 148 = .ok (.aload_n 0, 1) := by decide +kernel
theorem dX10_findBest_149 : decode cX10_findBest 149 = .ok (.aload_n 0, 1) := by decide +kernel
theorem dX10_findBest_150 : decode cX10_findBest 150 = .ok (.invokevirtual 273, 3) := by decide +kernel
theorem dX10_findBest_153 : decode cX10_findBest 153 = .ok (.putfield 270, 3) := by decide +kernel
theorem dX10_findBest_156 : decode cX10_findBest 156 = .ok (.iinc 3 1, 3) := by decide +kernel
theorem dX10_findBest_159 : decode cX10_findBest 159 = .ok (.goto (-133), 3) := by decide +kernel
theorem dX10_findBest_162 : decode cX10_findBest 162 = .ok (.return_, 1) := by decide +kernel
theorem dX10_bestTold_0 : decode cX10_bestTold 0 = .ok (.iload_n 1, 1) := by decide +kernel
theorem dX10_bestTold_1 : decode cX10_bestTold 1 = .ok (.ifCond .ge 8, 3) := by decide +kernel
theorem dX10_bestTold_4 : decode cX10_bestTold 4 = .ok (.aload_n 0, 1) := by decide +kernel
theorem dX10_bestTold_5 : decode cX10_bestTold 5 = .ok (.getfield 270, 3) := by decide +kernel
theorem dX10_bestTold_8 : decode cX10_bestTold 8 = .ok (.ireturn, 1) := by decide +kernel
theorem dX10_bestTold_9 : decode cX10_bestTold 9 = .ok (.aload_n 0, 1) := by decide +kernel
theorem dX10_bestTold_10 : decode cX10_bestTold 10 = .ok (.aload_n 0, 1) := by decide +kernel
theorem dX10_bestTold_11 : decode cX10_bestTold 11 = .ok (.getfield 267, 3) := by decide +kernel
theorem dX10_bestTold_14 : decode cX10_bestTold 14 = .ok (.aload_n 0, 1) := by decide +kernel
theorem dX10_bestTold_15 : decode cX10_bestTold 15 = .ok (.getfield 110, 3) := by decide +kernel
theorem dX10_bestTold_18 : decode cX10_bestTold 18 = .ok (.iconst 1, 1) := by decide +kernel
theorem dX10_bestTold_19 : decode cX10_bestTold 19 = .ok (.iadd, 1) := by decide +kernel
theorem dX10_bestTold_20 : decode cX10_bestTold 20 = .ok (.invokevirtual 261, 3) := by decide +kernel
theorem dX10_bestTold_23 : decode cX10_bestTold 23 = .ok (.aload_n 0, 1) := by decide +kernel
theorem dX10_bestTold_24 : decode cX10_bestTold 24 = .ok (.getfield 49, 3) := by decide +kernel
theorem dX10_bestTold_27 : decode cX10_bestTold 27 = .ok (.iload_n 1, 1) := by decide +kernel
theorem dX10_bestTold_28 : decode cX10_bestTold 28 = .ok (.iaload, 1) := by decide +kernel
theorem dX10_bestTold_29 : decode cX10_bestTold 29 = .ok (.ifCond .ne 8, 3) := by decide +kernel
theorem dX10_bestTold_32 : decode cX10_bestTold 32 = .ok (.bipush (-4), 2) := by decide +kernel
theorem dX10_bestTold_34 : decode cX10_bestTold 34 = .ok (.goto 11, 3) := by decide +kernel
theorem dX10_bestTold_37 : decode cX10_bestTold 37 = .ok (.aload_n 0, 1) := by decide +kernel
theorem dX10_bestTold_38 : decode cX10_bestTold 38 = .ok (.getfield 49, 3) := by decide +kernel
theorem dX10_bestTold_41 : decode cX10_bestTold 41 = .ok (.iload_n 1, 1) := by decide +kernel
theorem dX10_bestTold_42 : decode cX10_bestTold 42 = .ok (.iaload, 1) := by decide +kernel
theorem dX10_bestTold_43 : decode cX10_bestTold 43 = .ok (.iconst 1, 1) := by decide +kernel
theorem dX10_bestTold_44 : decode cX10_bestTold 44 = .ok (.isub, 1) := by decide +kernel
theorem dX10_bestTold_45 : decode cX10_bestTold 45 = .ok (.ireturn, 1) := by decide +kernel
theorem dX10_best_0 : decode cX10_best 0 = .ok (.aload_n 0, 1) := by decide +kernel
theorem dX10_best_1 : decode cX10_best 1 = .ok (.iconst 0, 1) := by decide +kernel
theorem dX10_best_2 : decode cX10_best 2 = .ok (.putfield 99, 3) := by decide +kernel
theorem dX10_best_5 : decode cX10_best 5 = .ok (.iload_n 1, 1) := by decide +kernel
theorem dX10_best_6 : decode cX10_best 6 = .ok (.iconst (-1), 1) := by decide +kernel
theorem dX10_best_7 : decode cX10_best 7 = .ok (.if_icmp .eq 13, 3) := by decide +kernel
theorem dX10_best_10 : decode cX10_best 10 = .ok (.aload_n 0, 1) := by decide +kernel
theorem dX10_best_11 : decode cX10_best 11 = .ok (.iload_n 1, 1) := by decide +kernel
theorem dX10_best_12 : decode cX10_best 12 = .ok (.invokevirtual 178, 3) := by decide +kernel
theorem dX10_best_15 : decode cX10_best 15 = .ok (.ifCond .ne 5, 3) := by decide +kernel
theorem dX10_best_18 : decode cX10_best 18 = .ok (.iconst (-1), 1) := by decide +kernel
theorem dX10_best_19 : decode cX10_best 19 = .ok (.ireturn, 1) := by decide +kernel
theorem dX10_best_20 : decode cX10_best 20 = .ok (.aload_n 0, 1) := by decide +kernel
theorem dX10_best_21 : decode cX10_best 21 = .ok (.iconst 0, 1) := by decide +kernel
theorem dX10_best_22 : decode cX10_best 22 = .ok (.invokevirtual 276, 3) := by decide +kernel
theorem dX10_best_25 : decode cX10_best 25 = .ok (.aload_n 0, 1) := by decide +kernel
theorem dX10_best_26 : decode cX10_best 26 = .ok (.iload_n 1, 1) := by decide +kernel
theorem dX10_best_27 : decode cX10_best 27 = .ok (.invokevirtual 280, 3) := by decide +kernel
theorem dX10_best_30 : decode cX10_best 30 = .ok (.ireturn, 1) := by decide +kernel
theorem dX10_withMusts_0 : decode cX10_withMusts 0 = .ok (.aload_n 0, 1) := by decide +kernel
theorem dX10_withMusts_1 : decode cX10_withMusts 1 = .ok (.iconst 0, 1) := by decide +kernel
theorem dX10_withMusts_2 : decode cX10_withMusts 2 = .ok (.putfield 99, 3) := by decide +kernel
theorem dX10_withMusts_5 : decode cX10_withMusts 5 = .ok (.iload_n 1, 1) := by decide +kernel
theorem dX10_withMusts_6 : decode cX10_withMusts 6 = .ok (.iconst (-1), 1) := by decide +kernel
theorem dX10_withMusts_7 : decode cX10_withMusts 7 = .ok (.if_icmp .eq 13, 3) := by decide +kernel
theorem dX10_withMusts_10 : decode cX10_withMusts 10 = .ok (.aload_n 0, 1) := by decide +kernel
theorem dX10_withMusts_11 : decode cX10_withMusts 11 = .ok (.iload_n 1, 1) := by decide +kernel
theorem dX10_withMusts_12 : decode cX10_withMusts 12 = .ok (.invokevirtual 178, 3) := by decide +kernel
theorem dX10_withMusts_15 : decode cX10_withMusts 15 = .ok (.ifCond .ne 5, 3) := by decide +kernel
theorem dX10_withMusts_18 : decode cX10_withMusts 18 = .ok (.iconst (-1), 1) := by decide +kernel
theorem dX10_withMusts_19 : decode cX10_withMusts 19 = .ok (.ireturn, 1) := by decide +kernel
theorem dX10_withMusts_20 : decode cX10_withMusts 20 = .ok (.aload_n 0, 1) := by decide +kernel
theorem dX10_withMusts_21 : decode cX10_withMusts 21 = .ok (.iconst 1, 1) := by decide +kernel
theorem dX10_withMusts_22 : decode cX10_withMusts 22 = .ok (.invokevirtual 276, 3) := by decide +kernel
theorem dX10_withMusts_25 : decode cX10_withMusts 25 = .ok (.aload_n 0, 1) := by decide +kernel
theorem dX10_withMusts_26 : decode cX10_withMusts 26 = .ok (.getfield 267, 3) := by decide +kernel
theorem dX10_withMusts_29 : decode cX10_withMusts 29 = .ok (.ifCond .ge 8, 3) := by decide +kernel
theorem dX10_withMusts_32 : decode cX10_withMusts 32 = .ok (.bipush (-4), 2) := by decide +kernel
theorem dX10_withMusts_34 : decode cX10_withMusts 34 = .ok (.goto 8, 3) := by decide +kernel
theorem dX10_withMusts_37 : decode cX10_withMusts 37 = .ok (.aload_n 0, 1) := by decide +kernel
theorem dX10_withMusts_38 : decode cX10_withMusts 38 = .ok (.iload_n 1, 1) := by decide +kernel
theorem dX10_withMusts_39 : decode cX10_withMusts 39 = .ok (.invokevirtual 280, 3) := by decide +kernel
theorem dX10_withMusts_42 : decode cX10_withMusts 42 = .ok (.ireturn, 1) := by decide +kernel
theorem dX10_numberOf_0 : decode cX10_numberOf 0 = .ok (.iconst 0, 1) := by decide +kernel
theorem dX10_numberOf_1 : decode cX10_numberOf 1 = .ok (.istore_n 1, 1) := by decide +kernel
theorem dX10_numberOf_2 : decode cX10_numberOf 2 = .ok (.iconst 0, 1) := by decide +kernel
theorem dX10_numberOf_3 : decode cX10_numberOf 3 = .ok (.istore_n 2, 1) := by decide +kernel
theorem dX10_numberOf_4 : decode cX10_numberOf 4 = .ok (.iload_n 2, 1) := by decide +kernel
theorem dX10_numberOf_5 : decode cX10_numberOf 5 = .ok (.aload_n 0, 1) := by decide +kernel
theorem dX10_numberOf_6 : decode cX10_numberOf 6 = .ok (.getfield 103, 3) := by decide +kernel
theorem dX10_numberOf_9 : decode cX10_numberOf 9 = .ok (.if_icmp .ge 25, 3) := by decide +kernel
theorem dX10_numberOf_12 : decode cX10_numberOf 12 = .ok (.iload_n 1, 1) := by decide +kernel
theorem dX10_numberOf_13 : decode cX10_numberOf 13 = .ok (.aload_n 0, 1) := by decide +kernel
theorem dX10_numberOf_14 : decode cX10_numberOf 14 = .ok (.getfield 110, 3) := by decide +kernel
theorem dX10_numberOf_17 : decode cX10_numberOf 17 = .ok (.iconst 1, 1) := by decide +kernel
theorem dX10_numberOf_18 : decode cX10_numberOf 18 = .ok (.iadd, 1) := by decide +kernel
theorem dX10_numberOf_19 : decode cX10_numberOf 19 = .ok (.imul, 1) := by decide +kernel
theorem dX10_numberOf_20 : decode cX10_numberOf 20 = .ok (.aload_n 0, 1) := by decide +kernel
theorem dX10_numberOf_21 : decode cX10_numberOf 21 = .ok (.getfield 28, 3) := by decide +kernel
theorem dX10_numberOf_24 : decode cX10_numberOf 24 = .ok (.iload_n 2, 1) := by decide +kernel
theorem dX10_numberOf_25 : decode cX10_numberOf 25 = .ok (.iaload, 1) := by decide +kernel
theorem dX10_numberOf_26 : decode cX10_numberOf 26 = .ok (.iadd, 1) := by decide +kernel
theorem dX10_numberOf_27 : decode cX10_numberOf 27 = .ok (.istore_n 1, 1) := by decide +kernel
theorem dX10_numberOf_28 : decode cX10_numberOf 28 = .ok (.iinc 2 1, 3) := by decide +kernel
theorem dX10_numberOf_31 : decode cX10_numberOf 31 = .ok (.goto (-27), 3) := by decide +kernel
theorem dX10_numberOf_34 : decode cX10_numberOf 34 = .ok (.iload_n 1, 1) := by decide +kernel
theorem dX10_numberOf_35 : decode cX10_numberOf 35 = .ok (.ireturn, 1) := by decide +kernel
theorem dX10_chain_0 : decode cX10_chain 0 = .ok (.aload_n 0, 1) := by decide +kernel
theorem dX10_chain_1 : decode cX10_chain 1 = .ok (.iconst 0, 1) := by decide +kernel
theorem dX10_chain_2 : decode cX10_chain 2 = .ok (.putfield 99, 3) := by decide +kernel
theorem dX10_chain_5 : decode cX10_chain 5 = .ok (.aload_n 0, 1) := by decide +kernel
theorem dX10_chain_6 : decode cX10_chain 6 = .ok (.iload_n 1, 1) := by decide +kernel
theorem dX10_chain_7 : decode cX10_chain 7 = .ok (.invokevirtual 184, 3) := by decide +kernel
theorem dX10_chain_10 : decode cX10_chain 10 = .ok (.istore_n 2, 1) := by decide +kernel
theorem dX10_chain_11 : decode cX10_chain 11 = .ok (.iload_n 2, 1) := by decide +kernel
theorem dX10_chain_12 : decode cX10_chain 12 = .ok (.ifCond .ge 5, 3) := by decide +kernel
theorem dX10_chain_15 : decode cX10_chain 15 = .ok (.iload_n 2, 1) := by decide +kernel
theorem dX10_chain_16 : decode cX10_chain 16 = .ok (.ireturn, 1) := by decide +kernel
theorem dX10_chain_17 : decode cX10_chain 17 = .ok (.aload_n 0, 1) := by decide +kernel
theorem dX10_chain_18 : decode cX10_chain 18 = .ok (.getfield 89, 3) := by decide +kernel
theorem dX10_chain_21 : decode cX10_chain 21 = .ok (.iload_n 1, 1) := by decide +kernel
theorem dX10_chain_22 : decode cX10_chain 22 = .ok (.iaload, 1) := by decide +kernel
theorem dX10_chain_23 : decode cX10_chain 23 = .ok (.aload_n 0, 1) := by decide +kernel
theorem dX10_chain_24 : decode cX10_chain 24 = .ok (.getfield 103, 3) := by decide +kernel
theorem dX10_chain_27 : decode cX10_chain 27 = .ok (.if_icmp .ne 7, 3) := by decide +kernel
theorem dX10_chain_30 : decode cX10_chain 30 = .ok (.iconst 1, 1) := by decide +kernel
theorem dX10_chain_31 : decode cX10_chain 31 = .ok (.goto 4, 3) := by decide +kernel
theorem dX10_chain_34 : decode cX10_chain 34 = .ok (.iconst 0, 1) := by decide +kernel
theorem dX10_chain_35 : decode cX10_chain 35 = .ok (.istore_n 3, 1) := by decide +kernel
theorem dX10_chain_36 : decode cX10_chain 36 = .ok (.iconst 0, 1) := by decide +kernel
theorem dX10_chain_37 : decode cX10_chain 37 = .ok (.istore 4, 2) := by decide +kernel
theorem dX10_chain_39 : decode cX10_chain 39 = .ok (.iload 4, 2) := by decide +kernel
theorem dX10_chain_41 : decode cX10_chain 41 = .ok (.aload_n 0, 1) := by decide +kernel
theorem dX10_chain_42 : decode cX10_chain 42 = .ok (.getfield 89, 3) := by decide +kernel
theorem dX10_chain_45 : decode cX10_chain 45 = .ok (.iload_n 1, 1) := by decide +kernel
theorem dX10_chain_46 : decode cX10_chain 46 = .ok (.iaload, 1) := by decide +kernel
theorem dX10_chain_47 : decode cX10_chain 47 = .ok (.if_icmp .ge 58, 3) := by decide +kernel
theorem dX10_chain_50 : decode cX10_chain 50 = .ok (.iload_n 3, 1) := by decide +kernel
theorem dX10_chain_51 : decode cX10_chain 51 = .ok (.ifCond .eq 54, 3) := by decide +kernel
theorem dX10_chain_54 : decode cX10_chain 54 = .ok (.aload_n 0, 1) := by decide +kernel
theorem dX10_chain_55 : decode cX10_chain 55 = .ok (.getfield 92, 3) := by decide +kernel
theorem dX10_chain_58 : decode cX10_chain 58 = .ok (.bipush 100, 2) := by decide +kernel
theorem dX10_chain_60 : decode cX10_chain 60 = .ok (.iload_n 1, 1) := by decide +kernel
theorem dX10_chain_61 : decode cX10_chain 61 = .ok (.imul, 1) := by decide +kernel
theorem dX10_chain_62 : decode cX10_chain 62 = .ok (.iload 4, 2) := by decide +kernel
theorem dX10_chain_64 : decode cX10_chain 64 = .ok (.iadd, 1) := by decide +kernel
theorem dX10_chain_65 : decode cX10_chain 65 = .ok (.laload, 1) := by decide +kernel
theorem dX10_chain_66 : decode cX10_chain 66 = .ok (.lstore 5, 2) := by decide +kernel
theorem dX10_chain_68 : decode cX10_chain 68 = .ok (.lload 5, 2) := by decide +kernel
theorem dX10_chain_70 : decode cX10_chain 70 = .ok (.lconst 0, 1) := by decide +kernel
theorem dX10_chain_71 : decode cX10_chain 71 = .ok (.aload_n 0, 1) := by decide +kernel
theorem dX10_chain_72 : decode cX10_chain 72 = .ok (.getfield 110, 3) := by decide +kernel
theorem dX10_chain_75 : decode cX10_chain 75 = .ok (.iconst 1, 1) := by decide +kernel
theorem dX10_chain_76 : decode cX10_chain 76 = .ok (.isub, 1) := by decide +kernel
theorem dX10_chain_77 : decode cX10_chain 77 = .ok (.i2l, 1) := by decide +kernel
theorem dX10_chain_78 : decode cX10_chain 78 = .ok (.invokestatic 106, 3) := by decide +kernel
theorem dX10_chain_81 : decode cX10_chain 81 = .ok (.ifCond .ne 12, 3) := by decide +kernel
theorem dX10_chain_84 : decode cX10_chain 84 = .ok (.lload 5, 2) := by decide +kernel
theorem dX10_chain_86 : decode cX10_chain 86 = .ok (.ldc2_w 255, 3) := by decide +kernel
theorem dX10_chain_89 : decode cX10_chain 89 = .ok (.lcmp, 1) := by decide +kernel
theorem dX10_chain_90 : decode cX10_chain 90 = .ok (.ifCond .ne 7, 3) := by decide +kernel
theorem dX10_chain_93 : decode cX10_chain 93 = .ok (.iconst 1, 1) := by decide +kernel
theorem dX10_chain_94 : decode cX10_chain 94 = .ok (.goto 4, 3) := by decide +kernel
theorem dX10_chain_97 : decode cX10_chain 97 = .ok (.iconst 0, 1) := by decide +kernel
theorem dX10_chain_98 : decode cX10_chain 98 = .ok (.istore_n 3, 1) := by decide +kernel
theorem dX10_chain_99 : decode cX10_chain 99 = .ok (.iinc 4 1, 3) := by decide +kernel
theorem dX10_chain_102 : decode cX10_chain 102 = .ok (.goto (-63), 3) := by decide +kernel
theorem dX10_chain_105 : decode cX10_chain 105 = .ok (.iload_n 3, 1) := by decide +kernel
theorem dX10_chain_106 : decode cX10_chain 106 = .ok (.ifCond .ne 6, 3) := by decide +kernel
theorem dX10_chain_109 : decode cX10_chain 109 = .ok (.bipush (-13), 2) := by decide +kernel
theorem dX10_chain_111 : decode cX10_chain 111 = .ok (.ireturn, 1) := by decide +kernel
theorem dX10_chain_112 : decode cX10_chain 112 = .ok (.iconst 0, 1) := by decide +kernel
theorem dX10_chain_113 : decode cX10_chain 113 = .ok (.istore 4, 2) := by decide +kernel
theorem dX10_chain_115 : decode cX10_chain 115 = .ok (.iload 4, 2) := by decide +kernel
theorem dX10_chain_117 : decode cX10_chain 117 = .ok (.aload_n 0, 1) := by decide +kernel
theorem dX10_chain_118 : decode cX10_chain 118 = .ok (.getfield 103, 3) := by decide +kernel
theorem dX10_chain_121 : decode cX10_chain 121 = .ok (.if_icmp .ge 48, 3) := by decide +kernel
theorem dX10_chain_124 : decode cX10_chain 124 = .ok (.aload_n 0, 1) := by decide +kernel
theorem dX10_chain_125 : decode cX10_chain 125 = .ok (.getfield 92, 3) := by decide +kernel
theorem dX10_chain_128 : decode cX10_chain 128 = .ok (.bipush 100, 2) := by decide +kernel
theorem dX10_chain_130 : decode cX10_chain 130 = .ok (.iload_n 1, 1) := by decide +kernel
theorem dX10_chain_131 : decode cX10_chain 131 = .ok (.imul, 1) := by decide +kernel
theorem dX10_chain_132 : decode cX10_chain 132 = .ok (.iload 4, 2) := by decide +kernel
theorem dX10_chain_134 : decode cX10_chain 134 = .ok (.iadd, 1) := by decide +kernel
theorem dX10_chain_135 : decode cX10_chain 135 = .ok (.laload, 1) := by decide +kernel
theorem dX10_chain_136 : decode cX10_chain 136 = .ok (.lstore 5, 2) := by decide +kernel
theorem dX10_chain_138 : decode cX10_chain 138 = .ok (.aload_n 0, 1) := by decide +kernel
theorem dX10_chain_139 : decode cX10_chain 139 = .ok (.getfield 28, 3) := by decide +kernel
theorem dX10_chain_142 : decode cX10_chain 142 = .ok (.iload 4, 2) := by decide +kernel
theorem dX10_chain_144 : decode cX10_chain 144 = .ok (.lload 5, 2) := by decide +kernel
theorem dX10_chain_146 : decode cX10_chain 146 = .ok (.ldc2_w 255, 3) := by decide +kernel
theorem dX10_chain_149 : decode cX10_chain 149 = .ok (.lcmp, 1) := by decide +kernel
theorem dX10_chain_150 : decode cX10_chain 150 = .ok (.ifCond .ne 7, 3) := by decide +kernel
theorem dX10_chain_153 : decode cX10_chain 153 = .ok (.iconst 0, 1) := by decide +kernel
theorem dX10_chain_154 : decode cX10_chain 154 = .ok (.goto 8, 3) := by decide +kernel
theorem dX10_chain_157 : decode cX10_chain 157 = .ok (.lload 5, 2) := by decide +kernel
theorem dX10_chain_159 : decode cX10_chain 159 = .ok (.l2i, 1) := by decide +kernel
theorem dX10_chain_160 : decode cX10_chain 160 = .ok (.iconst 1, 1) := by decide +kernel
theorem dX10_chain_161 : decode cX10_chain 161 = .ok (.iadd, 1) := by decide +kernel
theorem dX10_chain_162 : decode cX10_chain 162 = .ok (.iastore, 1) := by decide +kernel
theorem dX10_chain_163 : decode cX10_chain 163 = .ok (.iinc 4 1, 3) := by decide +kernel
theorem dX10_chain_166 : decode cX10_chain 166 = .ok (.goto (-51), 3) := by decide +kernel
theorem dX10_chain_169 : decode cX10_chain 169 = .ok (.aload_n 0, 1) := by decide +kernel
theorem dX10_chain_170 : decode cX10_chain 170 = .ok (.invokevirtual 283, 3) := by decide +kernel
theorem dX10_chain_173 : decode cX10_chain 173 = .ok (.istore 4, 2) := by decide +kernel
theorem dX10_chain_175 : decode cX10_chain 175 = .ok (.iconst 0, 1) := by decide +kernel
theorem dX10_chain_176 : decode cX10_chain 176 = .ok (.istore 5, 2) := by decide +kernel
theorem dX10_chain_178 : decode cX10_chain 178 = .ok (.iload 5, 2) := by decide +kernel
theorem dX10_chain_180 : decode cX10_chain 180 = .ok (.sipush 4096, 3) := by decide +kernel
theorem dX10_chain_183 : decode cX10_chain 183 = .ok (.if_icmp .ge 18, 3) := by decide +kernel
theorem dX10_chain_186 : decode cX10_chain 186 = .ok (.aload_n 0, 1) := by decide +kernel
theorem dX10_chain_187 : decode cX10_chain 187 = .ok (.getfield 52, 3) := by decide +kernel
theorem dX10_chain_190 : decode cX10_chain 190 = .ok (.iload 5, 2) := by decide +kernel
theorem dX10_chain_192 : decode cX10_chain 192 = .ok (.bipush (-4), 2) := by decide +kernel
theorem dX10_chain_194 : decode cX10_chain 194 = .ok (.iastore, 1) := by decide +kernel
theorem dX10_chain_195 : decode cX10_chain 195 = .ok (.iinc 5 1, 3) := by decide +kernel
theorem dX10_chain_198 : decode cX10_chain 198 = .ok (.goto (-20), 3) := by decide +kernel
theorem dX10_chain_201 : decode cX10_chain 201 = .ok (.aload_n 0, 1) := by decide +kernel
theorem dX10_chain_202 : decode cX10_chain 202 = .ok (.invokevirtual 204, 3) := by decide +kernel
theorem dX10_chain_205 : decode cX10_chain 205 = .ok (.aload_n 0, 1) := by decide +kernel
theorem dX10_chain_206 : decode cX10_chain 206 = .ok (.getfield 55, 3) := by decide +kernel
theorem dX10_chain_209 : decode cX10_chain 209 = .ok (.iconst 0, 1) := by decide +kernel
theorem dX10_chain_210 : decode cX10_chain 210 = .ok (.aload_n 0, 1) := by decide +kernel
theorem dX10_chain_211 : decode cX10_chain 211 = .ok (.invokevirtual 283, 3) := by decide +kernel
theorem dX10_chain_214 : decode cX10_chain 214 = .ok (.iastore, 1) := by decide +kernel
theorem dX10_chain_215 : decode cX10_chain 215 = .ok (.aload_n 0, 1) := by decide +kernel
theorem dX10_chain_216 : decode cX10_chain 216 = .ok (.getfield 52, 3) := by decide +kernel
theorem dX10_chain_219 : decode cX10_chain 219 = .ok (.aload_n 0, 1) := by decide +kernel
theorem dX10_chain_220 : decode cX10_chain 220 = .ok (.getfield 55, 3) := by decide +kernel
theorem dX10_chain_223 : decode cX10_chain 223 = .ok (.iconst 0, 1) := by decide +kernel
theorem dX10_chain_224 : decode cX10_chain 224 = .ok (.iaload, 1) := by decide +kernel
theorem dX10_chain_225 : decode cX10_chain 225 = .ok (.iconst 0, 1) := by decide +kernel
theorem dX10_chain_226 : decode cX10_chain 226 = .ok (.iastore, 1) := by decide +kernel
theorem dX10_chain_227 : decode cX10_chain 227 = .ok (.iconst 1, 1) := by decide +kernel
theorem dX10_chain_228 : decode cX10_chain 228 = .ok (.istore 5, 2) := by decide +kernel
theorem dX10_chain_230 : decode cX10_chain 230 = .ok (.iconst 0, 1) := by decide +kernel
theorem dX10_chain_231 : decode cX10_chain 231 = .ok (.istore 6, 2) := by decide +kernel
theorem dX10_chain_233 : decode cX10_chain 233 = .ok (.iload 6, 2) := by decide +kernel
theorem dX10_chain_235 : decode cX10_chain 235 = .ok (.iload 5, 2) := by decide +kernel
theorem dX10_chain_237 : decode cX10_chain 237 = .ok (.if_icmp .ge 172, 3) := by decide +kernel
theorem dX10_chain_240 : decode cX10_chain 240 = .ok (.aload_n 0, 1) := by decide +kernel
theorem dX10_chain_241 : decode cX10_chain 241 = .ok (.getfield 52, 3) := by decide +kernel
theorem dX10_chain_244 : decode cX10_chain 244 = .ok (.iload 4, 2) := by decide +kernel
theorem dX10_chain_246 : decode cX10_chain 246 = .ok (.iaload, 1) := by decide +kernel
theorem dX10_chain_247 : decode cX10_chain 247 = .ok (.ifCond .ge 162, 3) := by decide +kernel
theorem dX10_chain_250 : decode cX10_chain 250 = .ok (.iconst 0, 1) := by decide +kernel
theorem dX10_chain_251 : decode cX10_chain 251 = .ok (.istore 7, 2) := by decide +kernel
theorem dX10_chain_253 : decode cX10_chain 253 = .ok (.iload 7, 2) := by decide +kernel
theorem dX10_chain_255 : decode cX10_chain 255 = .ok (.aload_n 0, 1) := by decide +kernel
theorem dX10_chain_256 : decode cX10_chain 256 = .ok (.getfield 103, 3) := by decide +kernel
theorem dX10_chain_259 : decode cX10_chain 259 = .ok (.if_icmp .ge 144, 3) := by decide +kernel
theorem dX10_chain_262 : decode cX10_chain 262 = .ok (.iconst 0, 1) := by decide +kernel
theorem dX10_chain_263 : decode cX10_chain 263 = .ok (.istore 8, 2) := by decide +kernel
theorem dX10_chain_265 : decode cX10_chain 265 = .ok (.iload 8, 2) := by decide +kernel
theorem dX10_chain_267 : decode cX10_chain 267 = .ok (.aload_n 0, 1) := by decide +kernel
theorem dX10_chain_268 : decode cX10_chain 268 = .ok (.getfield 110, 3) := by decide +kernel
theorem dX10_chain_271 : decode cX10_chain 271 = .ok (.if_icmp .gt 126, 3) := by decide +kernel
theorem dX10_chain_274 : decode cX10_chain 274 = .ok (.aload_n 0, 1) := by decide +kernel
theorem dX10_chain_275 : decode cX10_chain 275 = .ok (.aload_n 0, 1) := by decide +kernel
theorem dX10_chain_276 : decode cX10_chain 276 = .ok (.getfield 55, 3) := by decide +kernel
theorem dX10_chain_279 : decode cX10_chain 279 = .ok (.iload 6, 2) := by decide +kernel
theorem dX10_chain_281 : decode cX10_chain 281 = .ok (.iaload, 1) := by decide +kernel
theorem dX10_chain_282 : decode cX10_chain 282 = .ok (.aload_n 0, 1) := by decide +kernel
theorem dX10_chain_283 : decode cX10_chain 283 = .ok (.getfield 110, 3) := by decide +kernel
theorem dX10_chain_286 : decode cX10_chain 286 = .ok (.iconst 1, 1) := by decide +kernel
theorem dX10_chain_287 : decode cX10_chain 287 = .ok (.iadd, 1) := by decide +kernel
theorem dX10_chain_288 : decode cX10_chain 288 = .ok (.invokevirtual 261, 3) := by decide +kernel
theorem dX10_chain_291 : decode cX10_chain 291 = .ok (.iconst 0, 1) := by decide +kernel
theorem dX10_chain_292 : decode cX10_chain 292 = .ok (.istore 9, 2) := by decide +kernel
theorem dX10_chain_294 : decode cX10_chain 294 = .ok (.iload 9, 2) := by decide +kernel
theorem dX10_chain_296 : decode cX10_chain 296 = .ok (.aload_n 0, 1) := by decide +kernel
theorem dX10_chain_297 : decode cX10_chain 297 = .ok (.getfield 103, 3) := by decide +kernel
theorem dX10_chain_300 : decode cX10_chain 300 = .ok (.if_icmp .ge 35, 3) := by decide +kernel
theorem dX10_chain_303 : decode cX10_chain 303 = .ok (.aload_n 0, 1) := by decide +kernel
theorem dX10_chain_304 : decode cX10_chain 304 = .ok (.getfield 28, 3) := by decide +kernel
theorem dX10_chain_307 : decode cX10_chain 307 = .ok (.iload 9, 2) := by decide +kernel
theorem dX10_chain_309 : decode cX10_chain 309 = .ok (.iload 9, 2) := by decide +kernel
theorem dX10_chain_311 : decode cX10_chain 311 = .ok (.iload 7, 2) := by decide +kernel
theorem dX10_chain_313 : decode cX10_chain 313 = .ok (.if_icmp .ne 8, 3) := by decide +kernel
theorem dX10_chain_316 : decode cX10_chain 316 = .ok (.iload 8, 2) := by decide +kernel
theorem dX10_chain_318 : decode cX10_chain 318 = .ok (.goto 10, 3) := by decide +kernel
theorem dX10_chain_321 : decode cX10_chain 321 = .ok (.aload_n 0, 1) := by decide +kernel
theorem dX10_chain_322 : decode cX10_chain 322 = .ok (.getfield 49, 3) := by decide +kernel
theorem dX10_chain_325 : decode cX10_chain 325 = .ok (.iload 9, 2) := by decide +kernel
theorem dX10_chain_327 : decode cX10_chain 327 = .ok (.iaload, 1) := by decide +kernel
theorem dX10_chain_328 : decode cX10_chain 328 = .ok (.iastore, 1) := by decide +kernel
theorem dX10_chain_329 : decode cX10_chain 329 = .ok (.iinc 9 1, 3) := by decide +kernel
theorem dX10_chain_332 : decode cX10_chain 332 = .ok (.goto (-38), 3) := by decide +kernel
theorem dX10_chain_335 : decode cX10_chain 335 = .ok (.aload_n 0, 1) := by decide +kernel
theorem dX10_chain_336 : decode cX10_chain 336 = .ok (.invokevirtual 283, 3) := by decide +kernel
theorem dX10_chain_339 : decode cX10_chain 339 = .ok (.istore 9, 2) := by decide +kernel
theorem dX10_chain_341 : decode cX10_chain 341 = .ok (.aload_n 0, 1) := by decide +kernel
theorem dX10_chain_342 : decode cX10_chain 342 = .ok (.getfield 52, 3) := by decide +kernel
theorem dX10_chain_345 : decode cX10_chain 345 = .ok (.iload 9, 2) := by decide +kernel
theorem dX10_chain_347 : decode cX10_chain 347 = .ok (.iaload, 1) := by decide +kernel
theorem dX10_chain_348 : decode cX10_chain 348 = .ok (.ifCond .ge 43, 3) := by decide +kernel
theorem dX10_chain_351 : decode cX10_chain 351 = .ok (.aload_n 0, 1) := by decide +kernel
theorem dX10_chain_352 : decode cX10_chain 352 = .ok (.invokevirtual 210, 3) := by decide +kernel
theorem dX10_chain_355 : decode cX10_chain 355 = .ok (.ifCond .eq 36, 3) := by decide +kernel
theorem dX10_chain_358 : decode cX10_chain 358 = .ok (.aload_n 0, 1) := by decide +kernel
theorem dX10_chain_359 : decode cX10_chain 359 = .ok (.getfield 52, 3) := by decide +kernel
theorem dX10_chain_362 : decode cX10_chain 362 = .ok (.iload 9, 2) := by decide +kernel
theorem dX10_chain_364 : decode cX10_chain 364 = .ok (.aload_n 0, 1) := by decide +kernel
theorem dX10_chain_365 : decode cX10_chain 365 = .ok (.getfield 52, 3) := by decide +kernel
theorem dX10_chain_368 : decode cX10_chain 368 = .ok (.aload_n 0, 1) := by decide +kernel
theorem dX10_chain_369 : decode cX10_chain 369 = .ok (.getfield 55, 3) := by decide +kernel
theorem dX10_chain_372 : decode cX10_chain 372 = .ok (.iload 6, 2) := by decide +kernel
theorem dX10_chain_374 : decode cX10_chain 374 = .ok (.iaload, 1) := by decide +kernel
theorem dX10_chain_375 : decode cX10_chain 375 = .ok (.iaload, 1) := by decide +kernel
theorem dX10_chain_376 : decode cX10_chain 376 = .ok (.iconst 1, 1) := by decide +kernel
theorem dX10_chain_377 : decode cX10_chain 377 = .ok (.iadd, 1) := by decide +kernel
theorem dX10_chain_378 : decode cX10_chain 378 = .ok (.iastore, 1) := by decide +kernel
theorem dX10_chain_379 : decode cX10_chain 379 = .ok (.aload_n 0, 1) := by decide +kernel
theorem dX10_chain_380 : decode cX10_chain 380 = .ok (.getfield 55, 3) := by decide +kernel
theorem dX10_chain_383 : decode cX10_chain 383 = .ok (.iload 5, 2) := by decide +kernel
theorem dX10_chain_385 : decode cX10_chain 385 = .ok (.iload 9, 2) := by decide +kernel
theorem dX10_chain_387 : decode cX10_chain 387 = .ok (.iastore, 1) := by decide +kernel
theorem dX10_chain_388 : decode cX10_chain 388 = .ok (.iinc 5 1, 3) := by decide +kernel
theorem dX10_chain_391 : decode cX10_chain 391 = .ok (.iinc 8 1, 3) := by decide +kernel
theorem dX10_chain_394 : decode cX10_chain 394 = .ok (.goto (-129), 3) := by decide +kernel
theorem dX10_chain_397 : decode cX10_chain 397 = .ok (.iinc 7 1, 3) := by decide +kernel
theorem dX10_chain_400 : decode cX10_chain 400 = .ok (.goto (-147), 3) := by decide +kernel
theorem dX10_chain_403 : decode cX10_chain 403 = .ok (.iinc 6 1, 3) := by decide +kernel
theorem dX10_chain_406 : decode cX10_chain 406 = .ok (.goto (-173), 3) := by decide +kernel
theorem dX10_chain_409 : decode cX10_chain 409 = .ok (.aload_n 0, 1) := by decide +kernel
theorem dX10_chain_410 : decode cX10_chain 410 = .ok (.getfield 52, 3) := by decide +kernel
theorem dX10_chain_413 : decode cX10_chain 413 = .ok (.iload 4, 2) := by decide +kernel
theorem dX10_chain_415 : decode cX10_chain 415 = .ok (.iaload, 1) := by decide +kernel
theorem dX10_chain_416 : decode cX10_chain 416 = .ok (.ireturn, 1) := by decide +kernel
theorem dX10_flood_0 : decode cX10_flood 0 = .ok (.aload_n 0, 1) := by decide +kernel
theorem dX10_flood_1 : decode cX10_flood 1 = .ok (.iconst 0, 1) := by decide +kernel
theorem dX10_flood_2 : decode cX10_flood 2 = .ok (.putfield 99, 3) := by decide +kernel
theorem dX10_flood_5 : decode cX10_flood 5 = .ok (.aload_n 0, 1) := by decide +kernel
theorem dX10_flood_6 : decode cX10_flood 6 = .ok (.iload_n 1, 1) := by decide +kernel
theorem dX10_flood_7 : decode cX10_flood 7 = .ok (.invokevirtual 178, 3) := by decide +kernel
theorem dX10_flood_10 : decode cX10_flood 10 = .ok (.ifCond .eq 16, 3) := by decide +kernel
theorem dX10_flood_13 : decode cX10_flood 13 = .ok (.aload_n 0, 1) := by decide +kernel
theorem dX10_flood_14 : decode cX10_flood 14 = .ok (.iload_n 2, 1) := by decide +kernel
theorem dX10_flood_15 : decode cX10_flood 15 = .ok (.invokevirtual 178, 3) := by decide +kernel
theorem dX10_flood_18 : decode cX10_flood 18 = .ok (.ifCond .eq 8, 3) := by decide +kernel
theorem dX10_flood_21 : decode cX10_flood 21 = .ok (.iload_n 1, 1) := by decide +kernel
theorem dX10_flood_22 : decode cX10_flood 22 = .ok (.iload_n 2, 1) := by decide +kernel
theorem dX10_flood_23 : decode cX10_flood 23 = .ok (.if_icmp .ne 5, 3) := by decide +kernel
theorem dX10_flood_26 : decode cX10_flood 26 = .ok (.iconst (-1), 1) := by decide +kernel
theorem dX10_flood_27 : decode cX10_flood 27 = .ok (.ireturn, 1) := by decide +kernel
theorem dX10_flood_28 : decode cX10_flood 28 = .ok (.aload_n 0, 1) := by decide +kernel
theorem dX10_flood_29 : decode cX10_flood 29 = .ok (.getfield 13, 3) := by decide +kernel
theorem dX10_flood_32 : decode cX10_flood 32 = .ok (.bipush 6, 2) := by decide +kernel
theorem dX10_flood_34 : decode cX10_flood 34 = .ok (.iload_n 1, 1) := by decide +kernel
theorem dX10_flood_35 : decode cX10_flood 35 = .ok (.imul, 1) := by decide +kernel
theorem dX10_flood_36 : decode cX10_flood 36 = .ok (.iload_n 2, 1) := by decide +kernel
theorem dX10_flood_37 : decode cX10_flood 37 = .ok (.iadd, 1) := by decide +kernel
theorem dX10_flood_38 : decode cX10_flood 38 = .ok (.iaload, 1) := by decide +kernel
theorem dX10_flood_39 : decode cX10_flood 39 = .ok (.istore_n 3, 1) := by decide +kernel
theorem dX10_flood_40 : decode cX10_flood 40 = .ok (.aload_n 0, 1) := by decide +kernel
theorem dX10_flood_41 : decode cX10_flood 41 = .ok (.getfield 13, 3) := by decide +kernel
theorem dX10_flood_44 : decode cX10_flood 44 = .ok (.bipush 6, 2) := by decide +kernel
theorem dX10_flood_46 : decode cX10_flood 46 = .ok (.iload_n 1, 1) := by decide +kernel
theorem dX10_flood_47 : decode cX10_flood 47 = .ok (.imul, 1) := by decide +kernel
theorem dX10_flood_48 : decode cX10_flood 48 = .ok (.iload_n 2, 1) := by decide +kernel
theorem dX10_flood_49 : decode cX10_flood 49 = .ok (.iadd, 1) := by decide +kernel
theorem dX10_flood_50 : decode cX10_flood 50 = .ok (.iconst 1, 1) := by decide +kernel
theorem dX10_flood_51 : decode cX10_flood 51 = .ok (.iastore, 1) := by decide +kernel
theorem dX10_flood_52 : decode cX10_flood 52 = .ok (.aload_n 0, 1) := by decide +kernel
theorem dX10_flood_53 : decode cX10_flood 53 = .ok (.getfield 13, 3) := by decide +kernel
theorem dX10_flood_56 : decode cX10_flood 56 = .ok (.bipush 6, 2) := by decide +kernel
theorem dX10_flood_58 : decode cX10_flood 58 = .ok (.iload_n 2, 1) := by decide +kernel
theorem dX10_flood_59 : decode cX10_flood 59 = .ok (.imul, 1) := by decide +kernel
theorem dX10_flood_60 : decode cX10_flood 60 = .ok (.iload_n 1, 1) := by decide +kernel
theorem dX10_flood_61 : decode cX10_flood 61 = .ok (.iadd, 1) := by decide +kernel
theorem dX10_flood_62 : decode cX10_flood 62 = .ok (.iconst 1, 1) := by decide +kernel
theorem dX10_flood_63 : decode cX10_flood 63 = .ok (.iastore, 1) := by decide +kernel
theorem dX10_flood_64 : decode cX10_flood 64 = .ok (.iconst (-1), 1) := by decide +kernel
theorem dX10_flood_65 : decode cX10_flood 65 = .ok (.istore 4, 2) := by decide +kernel
theorem dX10_flood_67 : decode cX10_flood 67 = .ok (.iconst 0, 1) := by decide +kernel
theorem dX10_flood_68 : decode cX10_flood 68 = .ok (.istore 5, 2) := by decide +kernel
theorem dX10_flood_70 : decode cX10_flood 70 = .ok (.iconst 0, 1) := by decide +kernel
theorem dX10_flood_71 : decode cX10_flood 71 = .ok (.istore 6, 2) := by decide +kernel
theorem dX10_flood_73 : decode cX10_flood 73 = .ok (.iload 6, 2) := by decide +kernel
theorem dX10_flood_75 : decode cX10_flood 75 = .ok (.iconst 1, 1) := by decide +kernel
theorem dX10_flood_76 : decode cX10_flood 76 = .ok (.aload_n 0, 1) := by decide +kernel
theorem dX10_flood_77 : decode cX10_flood 77 = .ok (.getfield 103, 3) := by decide +kernel
theorem dX10_flood_80 : decode cX10_flood 80 = .ok (.ishl, 1) := by decide +kernel
theorem dX10_flood_81 : decode cX10_flood 81 = .ok (.if_icmp .ge 149, 3) := by decide +kernel
theorem dX10_flood_84 : decode cX10_flood 84 = .ok (.iconst 1, 1) := by decide +kernel
theorem dX10_flood_85 : decode cX10_flood 85 = .ok (.istore 7, 2) := by decide +kernel
theorem dX10_flood_87 : decode cX10_flood 87 = .ok (.iconst 0, 1) := by decide +kernel
theorem dX10_flood_88 : decode cX10_flood 88 = .ok (.istore 8, 2) := by decide +kernel
theorem dX10_flood_90 : decode cX10_flood 90 = .ok (.aload_n 0, 1) := by decide +kernel
theorem dX10_flood_91 : decode cX10_flood 91 = .ok (.invokevirtual 204, 3) := by decide +kernel
theorem dX10_flood_94 : decode cX10_flood 94 = .ok (.iconst 0, 1) := by decide +kernel
theorem dX10_flood_95 : decode cX10_flood 95 = .ok (.istore 9, 2) := by decide +kernel
theorem dX10_flood_97 : decode cX10_flood 97 = .ok (.iload 9, 2) := by decide +kernel
theorem dX10_flood_99 : decode cX10_flood 99 = .ok (.aload_n 0, 1) := by decide +kernel
theorem dX10_flood_100 : decode cX10_flood 100 = .ok (.getfield 103, 3) := by decide +kernel
theorem dX10_flood_103 : decode cX10_flood 103 = .ok (.if_icmp .ge 89, 3) := by decide +kernel
theorem dX10_flood_106 : decode cX10_flood 106 = .ok (.iload 6, 2) := by decide +kernel
theorem dX10_flood_108 : decode cX10_flood 108 = .ok (.iload 9, 2) := by decide +kernel
theorem dX10_flood_110 : decode cX10_flood 110 = .ok (.ishr, 1) := by decide +kernel
theorem dX10_flood_111 : decode cX10_flood 111 = .ok (.iconst 1, 1) := by decide +kernel
theorem dX10_flood_112 : decode cX10_flood 112 = .ok (.iand, 1) := by decide +kernel
theorem dX10_flood_113 : decode cX10_flood 113 = .ok (.iconst 1, 1) := by decide +kernel
theorem dX10_flood_114 : decode cX10_flood 114 = .ok (.if_icmp .ne 72, 3) := by decide +kernel
theorem dX10_flood_117 : decode cX10_flood 117 = .ok (.iload 7, 2) := by decide +kernel
theorem dX10_flood_119 : decode cX10_flood 119 = .ok (.ifCond .eq 17, 3) := by decide +kernel
theorem dX10_flood_122 : decode cX10_flood 122 = .ok (.aload_n 0, 1) := by decide +kernel
theorem dX10_flood_123 : decode cX10_flood 123 = .ok (.getfield 25, 3) := by decide +kernel
theorem dX10_flood_126 : decode cX10_flood 126 = .ok (.iload 9, 2) := by decide +kernel
theorem dX10_flood_128 : decode cX10_flood 128 = .ok (.iaload, 1) := by decide +kernel
theorem dX10_flood_129 : decode cX10_flood 129 = .ok (.ifCond .le 7, 3) := by decide +kernel
theorem dX10_flood_132 : decode cX10_flood 132 = .ok (.iconst 1, 1) := by decide +kernel
theorem dX10_flood_133 : decode cX10_flood 133 = .ok (.goto 4, 3) := by decide +kernel
theorem dX10_flood_136 : decode cX10_flood 136 = .ok (.iconst 0, 1) := by decide +kernel
theorem dX10_flood_137 : decode cX10_flood 137 = .ok (.istore 7, 2) := by decide +kernel
theorem dX10_flood_139 : decode cX10_flood 139 = .ok (.iload 8, 2) := by decide +kernel
theorem dX10_flood_141 : decode cX10_flood 141 = .ok (.aload_n 0, 1) := by decide +kernel
theorem dX10_flood_142 : decode cX10_flood 142 = .ok (.getfield 25, 3) := by decide +kernel
theorem dX10_flood_145 : decode cX10_flood 145 = .ok (.iload 9, 2) := by decide +kernel
theorem dX10_flood_147 : decode cX10_flood 147 = .ok (.iaload, 1) := by decide +kernel
theorem dX10_flood_148 : decode cX10_flood 148 = .ok (.ifCond .le 26, 3) := by decide +kernel
theorem dX10_flood_151 : decode cX10_flood 151 = .ok (.aload_n 0, 1) := by decide +kernel
theorem dX10_flood_152 : decode cX10_flood 152 = .ok (.getfield 22, 3) := by decide +kernel
theorem dX10_flood_155 : decode cX10_flood 155 = .ok (.bipush 6, 2) := by decide +kernel
theorem dX10_flood_157 : decode cX10_flood 157 = .ok (.aload_n 0, 1) := by decide +kernel
theorem dX10_flood_158 : decode cX10_flood 158 = .ok (.getfield 25, 3) := by decide +kernel
theorem dX10_flood_161 : decode cX10_flood 161 = .ok (.iload 9, 2) := by decide +kernel
theorem dX10_flood_163 : decode cX10_flood 163 = .ok (.iaload, 1) := by decide +kernel
theorem dX10_flood_164 : decode cX10_flood 164 = .ok (.iconst 1, 1) := by decide +kernel
theorem dX10_flood_165 : decode cX10_flood 165 = .ok (.isub, 1) := by decide +kernel
theorem dX10_flood_166 : decode cX10_flood 166 = .ok (.imul, 1) := by decide +kernel
theorem dX10_flood_167 : decode cX10_flood 167 = .ok (.iload 9, 2) := by decide +kernel
theorem dX10_flood_169 : decode cX10_flood 169 = .ok (.iadd, 1) := by decide +kernel
theorem dX10_flood_170 : decode cX10_flood 170 = .ok (.iaload, 1) := by decide +kernel
theorem dX10_flood_171 : decode cX10_flood 171 = .ok (.goto 4, 3) := by decide +kernel
theorem dX10_flood_174 : decode cX10_flood 174 = .ok (.iconst 0, 1) := by decide +kernel
theorem dX10_flood_175 : decode cX10_flood 175 = .ok (.iadd, 1) := by decide +kernel
theorem dX10_flood_176 : decode cX10_flood 176 = .ok (.istore 8, 2) := by decide +kernel
theorem dX10_flood_178 : decode cX10_flood 178 = .ok (.aload_n 0, 1) := by decide +kernel
theorem dX10_flood_179 : decode cX10_flood 179 = .ok (.getfield 28, 3) := by decide +kernel
theorem dX10_flood_182 : decode cX10_flood 182 = .ok (.iload 9, 2) := by decide +kernel
theorem dX10_flood_184 : decode cX10_flood 184 = .ok (.iconst 0, 1) := by decide +kernel
theorem dX10_flood_185 : decode cX10_flood 185 = .ok (.iastore, 1) := by decide +kernel
theorem dX10_flood_186 : decode cX10_flood 186 = .ok (.iinc 9 1, 3) := by decide +kernel
theorem dX10_flood_189 : decode cX10_flood 189 = .ok (.goto (-92), 3) := by decide +kernel
theorem dX10_flood_192 : decode cX10_flood 192 = .ok (.iload 7, 2) := by decide +kernel
theorem dX10_flood_194 : decode cX10_flood 194 = .ok (.ifCond .eq 30, 3) := by decide +kernel
theorem dX10_flood_197 : decode cX10_flood 197 = .ok (.aload_n 0, 1) := by decide +kernel
theorem dX10_flood_198 : decode cX10_flood 198 = .ok (.invokevirtual 210, 3) := by decide +kernel
theorem dX10_flood_201 : decode cX10_flood 201 = .ok (.ifCond .eq 23, 3) := by decide +kernel
theorem dX10_flood_204 : decode cX10_flood 204 = .ok (.iload 4, 2) := by decide +kernel
theorem dX10_flood_206 : decode cX10_flood 206 = .ok (.ifCond .lt 10, 3) := by decide +kernel
theorem dX10_flood_209 : decode cX10_flood 209 = .ok (.iload 8, 2) := by decide +kernel
theorem dX10_flood_211 : decode cX10_flood 211 = .ok (.iload 5, 2) := by decide +kernel
theorem dX10_flood_213 : decode cX10_flood 213 = .ok (.if_icmp .ge 11, 3) := by decide +kernel
theorem dX10_flood_216 : decode cX10_flood 216 = .ok (.iload 6, 2) := by decide +kernel
theorem dX10_flood_218 : decode cX10_flood 218 = .ok (.istore 4, 2) := by decide +kernel
theorem dX10_flood_220 : decode cX10_flood 220 = .ok (.iload 8, 2) := by decide +kernel
theorem dX10_flood_222 : decode cX10_flood 222 = .ok (.istore 5, 2) := by decide +kernel
theorem dX10_flood_224 : decode cX10_flood 224 = .ok (.iinc 6 1, 3) := by decide +kernel
theorem dX10_flood_227 : decode cX10_flood 227 = .ok (.goto (-154), 3) := by decide +kernel
theorem dX10_flood_230 : decode cX10_flood 230 = .ok (.aload_n 0, 1) := by decide +kernel
theorem dX10_flood_231 : decode cX10_flood 231 = .ok (.getfield 13, 3) := by decide +kernel
theorem dX10_flood_234 : decode cX10_flood 234 = .ok (.bipush 6, 2) := by decide +kernel
theorem dX10_flood_236 : decode cX10_flood 236 = .ok (.iload_n 1, 1) := by decide +kernel
theorem dX10_flood_237 : decode cX10_flood 237 = .ok (.imul, 1) := by decide +kernel
theorem dX10_flood_238 : decode cX10_flood 238 = .ok (.iload_n 2, 1) := by decide +kernel
theorem dX10_flood_239 : decode cX10_flood 239 = .ok (.iadd, 1) := by decide +kernel
theorem dX10_flood_240 : decode cX10_flood 240 = .ok (.iload_n 3, 1) := by decide +kernel
theorem dX10_flood_241 : decode cX10_flood 241 = .ok (.iastore, 1) := by decide +kernel
theorem dX10_flood_242 : decode cX10_flood 242 = .ok (.aload_n 0, 1) := by decide +kernel
theorem dX10_flood_243 : decode cX10_flood 243 = .ok (.getfield 13, 3) := by decide +kernel
theorem dX10_flood_246 : decode cX10_flood 246 = .ok (.bipush 6, 2) := by decide +kernel
theorem dX10_flood_248 : decode cX10_flood 248 = .ok (.iload_n 2, 1) := by decide +kernel
theorem dX10_flood_249 : decode cX10_flood 249 = .ok (.imul, 1) := by decide +kernel
theorem dX10_flood_250 : decode cX10_flood 250 = .ok (.iload_n 1, 1) := by decide +kernel
theorem dX10_flood_251 : decode cX10_flood 251 = .ok (.iadd, 1) := by decide +kernel
theorem dX10_flood_252 : decode cX10_flood 252 = .ok (.iload_n 3, 1) := by decide +kernel
theorem dX10_flood_253 : decode cX10_flood 253 = .ok (.iastore, 1) := by decide +kernel
theorem dX10_flood_254 : decode cX10_flood 254 = .ok (.iload 4, 2) := by decide +kernel
theorem dX10_flood_256 : decode cX10_flood 256 = .ok (.ireturn, 1) := by decide +kernel
theorem dX10_frees_0 : decode cX10_frees 0 = .ok (.aload_n 0, 1) := by decide +kernel
theorem dX10_frees_1 : decode cX10_frees 1 = .ok (.iconst 0, 1) := by decide +kernel
theorem dX10_frees_2 : decode cX10_frees 2 = .ok (.putfield 99, 3) := by decide +kernel
theorem dX10_frees_5 : decode cX10_frees 5 = .ok (.aload_n 0, 1) := by decide +kernel
theorem dX10_frees_6 : decode cX10_frees 6 = .ok (.iconst 0, 1) := by decide +kernel
theorem dX10_frees_7 : decode cX10_frees 7 = .ok (.invokevirtual 276, 3) := by decide +kernel
theorem dX10_frees_10 : decode cX10_frees 10 = .ok (.aload_n 0, 1) := by decide +kernel
theorem dX10_frees_11 : decode cX10_frees 11 = .ok (.getfield 270, 3) := by decide +kernel
theorem dX10_frees_14 : decode cX10_frees 14 = .ok (.istore_n 1, 1) := by decide +kernel
theorem dX10_frees_15 : decode cX10_frees 15 = .ok (.bipush (-4), 2) := by decide +kernel
theorem dX10_frees_17 : decode cX10_frees 17 = .ok (.istore_n 2, 1) := by decide +kernel
theorem dX10_frees_18 : decode cX10_frees 18 = .ok (.iconst 0, 1) := by decide +kernel
theorem dX10_frees_19 : decode cX10_frees 19 = .ok (.istore_n 3, 1) := by decide +kernel
theorem dX10_frees_20 : decode cX10_frees 20 = .ok (.iload_n 3, 1) := by decide +kernel
theorem dX10_frees_21 : decode cX10_frees 21 = .ok (.aload_n 0, 1) := by decide +kernel
theorem dX10_frees_22 : decode cX10_frees 22 = .ok (.getfield 103, 3) := by decide +kernel
theorem dX10_frees_25 : decode cX10_frees 25 = .ok (.if_icmp .ge 123, 3) := by decide +kernel
theorem dX10_frees_28 : decode cX10_frees 28 = .ok (.iload_n 3, 1) := by decide +kernel
theorem dX10_frees_29 : decode cX10_frees 29 = .ok (.iconst 1, 1) := by decide +kernel
theorem dX10_frees_30 : decode cX10_frees 30 = .ok (.iadd, 1) := by decide +kernel
theorem dX10_frees_31 : decode cX10_frees 31 = .ok (.istore 4, 2) := by decide +kernel
theorem dX10_frees_33 : decode cX10_frees 33 = .ok (.iload 4, 2) := by decide +kernel
theorem dX10_frees_35 : decode cX10_frees 35 = .ok (.aload_n 0, 1) := by decide +kernel
theorem dX10_frees_36 : decode cX10_frees 36 = .ok (.getfield 103, 3) := by decide +kernel
theorem dX10_frees_39 : decode cX10_frees 39 = .ok (.if_icmp .ge 103, 3) := by decide +kernel
theorem dX10_frees_42 : decode cX10_frees 42 = .ok (.aload_n 0, 1) := by decide +kernel
theorem dX10_frees_43 : decode cX10_frees 43 = .ok (.getfield 13, 3) := by decide +kernel
theorem dX10_frees_46 : decode cX10_frees 46 = .ok (.bipush 6, 2) := by decide +kernel
theorem dX10_frees_48 : decode cX10_frees 48 = .ok (.iload_n 3, 1) := by decide +kernel
theorem dX10_frees_49 : decode cX10_frees 49 = .ok (.imul, 1) := by decide +kernel
theorem dX10_frees_50 : decode cX10_frees 50 = .ok (.iload 4, 2) := by decide +kernel
theorem dX10_frees_52 : decode cX10_frees 52 = .ok (.iadd, 1) := by decide +kernel
theorem dX10_frees_53 : decode cX10_frees 53 = .ok (.iaload, 1) := by decide +kernel
theorem dX10_frees_54 : decode cX10_frees 54 = .ok (.iconst 1, 1) := by decide +kernel
theorem dX10_frees_55 : decode cX10_frees 55 = .ok (.if_icmp .ne 81, 3) := by decide +kernel
theorem dX10_frees_58 : decode cX10_frees 58 = .ok (.aload_n 0, 1) := by decide +kernel
theorem dX10_frees_59 : decode cX10_frees 59 = .ok (.getfield 13, 3) := by decide +kernel
theorem dX10_frees_62 : decode cX10_frees 62 = .ok (.bipush 6, 2) := by decide +kernel
theorem dX10_frees_64 : decode cX10_frees 64 = .ok (.iload_n 3, 1) := by decide +kernel
theorem dX10_frees_65 : decode cX10_frees 65 = .ok (.imul, 1) := by decide +kernel
theorem dX10_frees_66 : decode cX10_frees 66 = .ok (.iload 4, 2) := by decide +kernel
theorem dX10_frees_68 : decode cX10_frees 68 = .ok (.iadd, 1) := by decide +kernel
theorem dX10_frees_69 : decode cX10_frees 69 = .ok (.iconst 2, 1) := by decide +kernel
theorem dX10_frees_70 : decode cX10_frees 70 = .ok (.iastore, 1) := by decide +kernel
theorem dX10_frees_71 : decode cX10_frees 71 = .ok (.aload_n 0, 1) := by decide +kernel
theorem dX10_frees_72 : decode cX10_frees 72 = .ok (.getfield 13, 3) := by decide +kernel
theorem dX10_frees_75 : decode cX10_frees 75 = .ok (.bipush 6, 2) := by decide +kernel
theorem dX10_frees_77 : decode cX10_frees 77 = .ok (.iload 4, 2) := by decide +kernel
theorem dX10_frees_79 : decode cX10_frees 79 = .ok (.imul, 1) := by decide +kernel
theorem dX10_frees_80 : decode cX10_frees 80 = .ok (.iload_n 3, 1) := by decide +kernel
theorem dX10_frees_81 : decode cX10_frees 81 = .ok (.iadd, 1) := by decide +kernel
theorem dX10_frees_82 : decode cX10_frees 82 = .ok (.iconst 2, 1) := by decide +kernel
theorem dX10_frees_83 : decode cX10_frees 83 = .ok (.iastore, 1) := by decide +kernel
theorem dX10_frees_84 : decode cX10_frees 84 = .ok (.aload_n 0, 1) := by decide +kernel
theorem dX10_frees_85 : decode cX10_frees 85 = .ok (.iconst 0, 1) := by decide +kernel
theorem dX10_frees_86 : decode cX10_frees 86 = .ok (.invokevirtual 276, 3) := by decide +kernel
theorem dX10_frees_89 : decode cX10_frees 89 = .ok (.aload_n 0, 1) := by decide +kernel
theorem dX10_frees_90 : decode cX10_frees 90 = .ok (.getfield 13, 3) := by decide +kernel
theorem dX10_frees_93 : decode cX10_frees 93 = .ok (.bipush 6, 2) := by decide +kernel
theorem dX10_frees_95 : decode cX10_frees 95 = .ok (.iload_n 3, 1) := by decide +kernel
theorem dX10_frees_96 : decode cX10_frees 96 = .ok (.imul, 1) := by decide +kernel
theorem dX10_frees_97 : decode cX10_frees 97 = .ok (.iload 4, 2) := by decide +kernel
theorem dX10_frees_99 : decode cX10_frees 99 = .ok (.iadd, 1) := by decide +kernel
theorem dX10_frees_100 : decode cX10_frees 100 = .ok (.iconst 1, 1) := by decide +kernel
theorem dX10_frees_101 : decode cX10_frees 101 = .ok (.iastore, 1) := by decide +kernel
theorem dX10_frees_102 : decode cX10_frees 102 = .ok (.aload_n 0, 1) := by decide +kernel
theorem dX10_frees_103 : decode cX10_frees 103 = .ok (.getfield 13, 3) := by decide +kernel
theorem dX10_frees_106 : decode cX10_frees 106 = .ok (.bipush 6, 2) := by decide +kernel
theorem dX10_frees_108 : decode cX10_frees 108 = .ok (.iload 4, 2) := by decide +kernel
theorem dX10_frees_110 : decode cX10_frees 110 = .ok (.imul, 1) := by decide +kernel
theorem dX10_frees_111 : decode cX10_frees 111 = .ok (.iload_n 3, 1) := by decide +kernel
theorem dX10_frees_112 : decode cX10_frees 112 = .ok (.iadd, 1) := by decide +kernel
theorem dX10_frees_113 : decode cX10_frees 113 = .ok (.iconst 1, 1) := by decide +kernel
theorem dX10_frees_114 : decode cX10_frees 114 = .ok (.iastore, 1) := by decide +kernel
theorem dX10_frees_115 : decode cX10_frees 115 = .ok (.aload_n 0, 1) := by decide +kernel
theorem dX10_frees_116 : decode cX10_frees 116 = .ok (.getfield 270, 3) := by decide +kernel
theorem dX10_frees_119 : decode cX10_frees 119 = .ok (.iload_n 1, 1) := by decide +kernel
theorem dX10_frees_120 : decode cX10_frees 120 = .ok (.if_icmp .le 16, 3) := by decide +kernel
theorem dX10_frees_123 : decode cX10_frees 123 = .ok (.aload_n 0, 1) := by decide +kernel
theorem dX10_frees_124 : decode cX10_frees 124 = .ok (.getfield 270, 3) := by decide +kernel
theorem dX10_frees_127 : decode cX10_frees 127 = .ok (.istore_n 1, 1) := by decide +kernel
theorem dX10_frees_128 : decode cX10_frees 128 = .ok (.bipush 10, 2) := by decide +kernel
theorem dX10_frees_130 : decode cX10_frees 130 = .ok (.iload_n 3, 1) := by decide +kernel
theorem dX10_frees_131 : decode cX10_frees 131 = .ok (.imul, 1) := by decide +kernel
theorem dX10_frees_132 : decode cX10_frees 132 = .ok (.iload 4, 2) := by decide +kernel
theorem dX10_frees_134 : decode cX10_frees 134 = .ok (.iadd, 1) := by decide +kernel
theorem dX10_frees_135 : decode cX10_frees 135 = .ok (.istore_n 2, 1) := by decide +kernel
theorem dX10_frees_136 : decode cX10_frees 136 = .ok (.iinc 4 1, 3) := by decide +kernel
theorem dX10_frees_139 : decode cX10_frees 139 = .ok (.goto (-106), 3) := by decide +kernel
theorem dX10_frees_142 : decode cX10_frees 142 = .ok (.iinc 3 1, 3) := by decide +kernel
theorem dX10_frees_145 : decode cX10_frees 145 = .ok (.goto (-125), 3) := by decide +kernel
theorem dX10_frees_148 : decode cX10_frees 148 = .ok (.iload_n 2, 1) := by decide +kernel
theorem dX10_frees_149 : decode cX10_frees 149 = .ok (.ireturn, 1) := by decide +kernel
theorem dX10_spreadGame_0 : decode cX10_spreadGame 0 = .ok (.iload_n 1, 1) := by decide +kernel
theorem dX10_spreadGame_1 : decode cX10_spreadGame 1 = .ok (.istore_n 2, 1) := by decide +kernel
theorem dX10_spreadGame_2 : decode cX10_spreadGame 2 = .ok (.iconst 0, 1) := by decide +kernel
theorem dX10_spreadGame_3 : decode cX10_spreadGame 3 = .ok (.istore_n 3, 1) := by decide +kernel
theorem dX10_spreadGame_4 : decode cX10_spreadGame 4 = .ok (.iload_n 3, 1) := by decide +kernel
theorem dX10_spreadGame_5 : decode cX10_spreadGame 5 = .ok (.bipush 6, 2) := by decide +kernel
theorem dX10_spreadGame_7 : decode cX10_spreadGame 7 = .ok (.if_icmp .ge 22, 3) := by decide +kernel
theorem dX10_spreadGame_10 : decode cX10_spreadGame 10 = .ok (.aload_n 0, 1) := by decide +kernel
theorem dX10_spreadGame_11 : decode cX10_spreadGame 11 = .ok (.getfield 65, 3) := by decide +kernel
theorem dX10_spreadGame_14 : decode cX10_spreadGame 14 = .ok (.iload_n 3, 1) := by decide +kernel
theorem dX10_spreadGame_15 : decode cX10_spreadGame 15 = .ok (.iload_n 2, 1) := by decide +kernel
theorem dX10_spreadGame_16 : decode cX10_spreadGame 16 = .ok (.iconst 3, 1) := by decide +kernel
theorem dX10_spreadGame_17 : decode cX10_spreadGame 17 = .ok (.irem, 1) := by decide +kernel
theorem dX10_spreadGame_18 : decode cX10_spreadGame 18 = .ok (.iastore, 1) := by decide +kernel
theorem dX10_spreadGame_19 : decode cX10_spreadGame 19 = .ok (.iload_n 2, 1) := by decide +kernel
theorem dX10_spreadGame_20 : decode cX10_spreadGame 20 = .ok (.iconst 3, 1) := by decide +kernel
theorem dX10_spreadGame_21 : decode cX10_spreadGame 21 = .ok (.idiv, 1) := by decide +kernel
theorem dX10_spreadGame_22 : decode cX10_spreadGame 22 = .ok (.istore_n 2, 1) := by decide +kernel
theorem dX10_spreadGame_23 : decode cX10_spreadGame 23 = .ok (.iinc 3 1, 3) := by decide +kernel
theorem dX10_spreadGame_26 : decode cX10_spreadGame 26 = .ok (.goto (-22), 3) := by decide +kernel
theorem dX10_spreadGame_29 : decode cX10_spreadGame 29 = .ok (.return_, 1) := by decide +kernel
theorem dX10_free_0 : decode cX10_free 0 = .ok (.iconst 0, 1) := by decide +kernel
theorem dX10_free_1 : decode cX10_free 1 = .ok (.istore_n 1, 1) := by decide +kernel
theorem dX10_free_2 : decode cX10_free 2 = .ok (.iconst 0, 1) := by decide +kernel
theorem dX10_free_3 : decode cX10_free 3 = .ok (.istore_n 2, 1) := by decide +kernel
theorem dX10_free_4 : decode cX10_free 4 = .ok (.iload_n 2, 1) := by decide +kernel
theorem dX10_free_5 : decode cX10_free 5 = .ok (.aload_n 0, 1) := by decide +kernel
theorem dX10_free_6 : decode cX10_free 6 = .ok (.getfield 103, 3) := by decide +kernel
theorem dX10_free_9 : decode cX10_free 9 = .ok (.if_icmp .ge 35, 3) := by decide +kernel
theorem dX10_free_12 : decode cX10_free 12 = .ok (.iload_n 1, 1) := by decide +kernel
theorem dX10_free_13 : decode cX10_free 13 = .ok (.aload_n 0, 1) := by decide +kernel
theorem dX10_free_14 : decode cX10_free 14 = .ok (.getfield 25, 3) := by decide +kernel
theorem dX10_free_17 : decode cX10_free 17 = .ok (.iload_n 2, 1) := by decide +kernel
theorem dX10_free_18 : decode cX10_free 18 = .ok (.iaload, 1) := by decide +kernel
theorem dX10_free_19 : decode cX10_free 19 = .ok (.ifCond .ne 16, 3) := by decide +kernel
theorem dX10_free_22 : decode cX10_free 22 = .ok (.aload_n 0, 1) := by decide +kernel
theorem dX10_free_23 : decode cX10_free 23 = .ok (.getfield 65, 3) := by decide +kernel
theorem dX10_free_26 : decode cX10_free 26 = .ok (.iload_n 2, 1) := by decide +kernel
theorem dX10_free_27 : decode cX10_free 27 = .ok (.iaload, 1) := by decide +kernel
theorem dX10_free_28 : decode cX10_free 28 = .ok (.ifCond .ne 7, 3) := by decide +kernel
theorem dX10_free_31 : decode cX10_free 31 = .ok (.iconst 1, 1) := by decide +kernel
theorem dX10_free_32 : decode cX10_free 32 = .ok (.goto 4, 3) := by decide +kernel
theorem dX10_free_35 : decode cX10_free 35 = .ok (.iconst 0, 1) := by decide +kernel
theorem dX10_free_36 : decode cX10_free 36 = .ok (.iadd, 1) := by decide +kernel
theorem dX10_free_37 : decode cX10_free 37 = .ok (.istore_n 1, 1) := by decide +kernel
theorem dX10_free_38 : decode cX10_free 38 = .ok (.iinc 2 1, 3) := by decide +kernel
theorem dX10_free_41 : decode cX10_free 41 = .ok (.goto (-37), 3) := by decide +kernel
theorem dX10_free_44 : decode cX10_free 44 = .ok (.iload_n 1, 1) := by decide +kernel
theorem dX10_free_45 : decode cX10_free 45 = .ok (.ireturn, 1) := by decide +kernel
theorem dX10_canTake_0 : decode cX10_canTake 0 = .ok (.aload_n 0, 1) := by decide +kernel
theorem dX10_canTake_1 : decode cX10_canTake 1 = .ok (.getfield 25, 3) := by decide +kernel
theorem dX10_canTake_4 : decode cX10_canTake 4 = .ok (.iload_n 1, 1) := by decide +kernel
theorem dX10_canTake_5 : decode cX10_canTake 5 = .ok (.iaload, 1) := by decide +kernel
theorem dX10_canTake_6 : decode cX10_canTake 6 = .ok (.ifCond .ne 16, 3) := by decide +kernel
theorem dX10_canTake_9 : decode cX10_canTake 9 = .ok (.aload_n 0, 1) := by decide +kernel
theorem dX10_canTake_10 : decode cX10_canTake 10 = .ok (.getfield 65, 3) := by decide +kernel
theorem dX10_canTake_13 : decode cX10_canTake 13 = .ok (.iload_n 1, 1) := by decide +kernel
theorem dX10_canTake_14 : decode cX10_canTake 14 = .ok (.iaload, 1) := by decide +kernel
theorem dX10_canTake_15 : decode cX10_canTake 15 = .ok (.ifCond .ne 7, 3) := by decide +kernel
theorem dX10_canTake_18 : decode cX10_canTake 18 = .ok (.iconst 1, 1) := by decide +kernel
theorem dX10_canTake_19 : decode cX10_canTake 19 = .ok (.goto 4, 3) := by decide +kernel
theorem dX10_canTake_22 : decode cX10_canTake 22 = .ok (.iconst 0, 1) := by decide +kernel
theorem dX10_canTake_23 : decode cX10_canTake 23 = .ok (.istore_n 3, 1) := by decide +kernel
theorem dX10_canTake_24 : decode cX10_canTake 24 = .ok (.iconst 0, 1) := by decide +kernel
theorem dX10_canTake_25 : decode cX10_canTake 25 = .ok (.istore 4, 2) := by decide +kernel
theorem dX10_canTake_27 : decode cX10_canTake 27 = .ok (.iload 4, 2) := by decide +kernel
theorem dX10_canTake_29 : decode cX10_canTake 29 = .ok (.aload_n 0, 1) := by decide +kernel
theorem dX10_canTake_30 : decode cX10_canTake 30 = .ok (.getfield 103, 3) := by decide +kernel
theorem dX10_canTake_33 : decode cX10_canTake 33 = .ok (.if_icmp .ge 73, 3) := by decide +kernel
theorem dX10_canTake_36 : decode cX10_canTake 36 = .ok (.aload_n 0, 1) := by decide +kernel
theorem dX10_canTake_37 : decode cX10_canTake 37 = .ok (.getfield 25, 3) := by decide +kernel
theorem dX10_canTake_40 : decode cX10_canTake 40 = .ok (.iload 4, 2) := by decide +kernel
theorem dX10_canTake_42 : decode cX10_canTake 42 = .ok (.iaload, 1) := by decide +kernel
theorem dX10_canTake_43 : decode cX10_canTake 43 = .ok (.iload_n 2, 1) := by decide +kernel
theorem dX10_canTake_44 : decode cX10_canTake 44 = .ok (.iconst 1, 1) := by decide +kernel
theorem dX10_canTake_45 : decode cX10_canTake 45 = .ok (.iadd, 1) := by decide +kernel
theorem dX10_canTake_46 : decode cX10_canTake 46 = .ok (.if_icmp .eq 16, 3) := by decide +kernel
theorem dX10_canTake_49 : decode cX10_canTake 49 = .ok (.aload_n 0, 1) := by decide +kernel
theorem dX10_canTake_50 : decode cX10_canTake 50 = .ok (.getfield 65, 3) := by decide +kernel
theorem dX10_canTake_53 : decode cX10_canTake 53 = .ok (.iload 4, 2) := by decide +kernel
theorem dX10_canTake_55 : decode cX10_canTake 55 = .ok (.iaload, 1) := by decide +kernel
theorem dX10_canTake_56 : decode cX10_canTake 56 = .ok (.iload_n 2, 1) := by decide +kernel
theorem dX10_canTake_57 : decode cX10_canTake 57 = .ok (.iconst 1, 1) := by decide +kernel
theorem dX10_canTake_58 : decode cX10_canTake 58 = .ok (.iadd, 1) := by decide +kernel
theorem dX10_canTake_59 : decode cX10_canTake 59 = .ok (.if_icmp .ne 7, 3) := by decide +kernel
theorem dX10_canTake_62 : decode cX10_canTake 62 = .ok (.iconst 1, 1) := by decide +kernel
theorem dX10_canTake_63 : decode cX10_canTake 63 = .ok (.goto 4, 3) := by decide +kernel
theorem dX10_canTake_66 : decode cX10_canTake 66 = .ok (.iconst 0, 1) := by decide +kernel
theorem dX10_canTake_67 : decode cX10_canTake 67 = .ok (.istore 5, 2) := by decide +kernel
theorem dX10_canTake_69 : decode cX10_canTake 69 = .ok (.iload_n 3, 1) := by decide +kernel
theorem dX10_canTake_70 : decode cX10_canTake 70 = .ok (.ifCond .eq 28, 3) := by decide +kernel
theorem dX10_canTake_73 : decode cX10_canTake 73 = .ok (.iload 5, 2) := by decide +kernel
theorem dX10_canTake_75 : decode cX10_canTake 75 = .ok (.ifCond .eq 19, 3) := by decide +kernel
theorem dX10_canTake_78 : decode cX10_canTake 78 = .ok (.iload 4, 2) := by decide +kernel
theorem dX10_canTake_80 : decode cX10_canTake 80 = .ok (.iload_n 1, 1) := by decide +kernel
theorem dX10_canTake_81 : decode cX10_canTake 81 = .ok (.if_icmp .eq 13, 3) := by decide +kernel
theorem dX10_canTake_84 : decode cX10_canTake 84 = .ok (.aload_n 0, 1) := by decide +kernel
theorem dX10_canTake_85 : decode cX10_canTake 85 = .ok (.iload_n 1, 1) := by decide +kernel
theorem dX10_canTake_86 : decode cX10_canTake 86 = .ok (.iload 4, 2) := by decide +kernel
theorem dX10_canTake_88 : decode cX10_canTake 88 = .ok (.invokevirtual 119, 3) := by decide +kernel
theorem dX10_canTake_91 : decode cX10_canTake 91 = .ok (.ifCond .ne 7, 3) := by decide +kernel
theorem dX10_canTake_94 : decode cX10_canTake 94 = .ok (.iconst 1, 1) := by decide +kernel
theorem dX10_canTake_95 : decode cX10_canTake 95 = .ok (.goto 4, 3) := by decide +kernel
theorem dX10_canTake_98 : decode cX10_canTake 98 = .ok (.iconst 0, 1) := by decide +kernel
theorem dX10_canTake_99 : decode cX10_canTake 99 = .ok (.istore_n 3, 1) := by decide +kernel
theorem dX10_canTake_100 : decode cX10_canTake 100 = .ok (.iinc 4 1, 3) := by decide +kernel
theorem dX10_canTake_103 : decode cX10_canTake 103 = .ok (.goto (-76), 3) := by decide +kernel
theorem dX10_canTake_106 : decode cX10_canTake 106 = .ok (.iload_n 3, 1) := by decide +kernel
theorem dX10_canTake_107 : decode cX10_canTake 107 = .ok (.ireturn, 1) := by decide +kernel
theorem dX10_solveState_0 : decode cX10_solveState 0 = .ok (.iconst 1, 1) := by decide +kernel
theorem dX10_solveState_1 : decode cX10_solveState 1 = .ok (.istore_n 3, 1) := by decide +kernel
theorem dX10_solveState_2 : decode cX10_solveState 2 = .ok (.iconst 0, 1) := by decide +kernel
theorem dX10_solveState_3 : decode cX10_solveState 3 = .ok (.istore 4, 2) := by decide +kernel
theorem dX10_solveState_5 : decode cX10_solveState 5 = .ok (.iconst 0, 1) := by decide +kernel
theorem dX10_solveState_6 : decode cX10_solveState 6 = .ok (.istore 5, 2) := by decide +kernel
theorem dX10_solveState_8 : decode cX10_solveState 8 = .ok (.iconst 0, 1) := by decide +kernel
theorem dX10_solveState_9 : decode cX10_solveState 9 = .ok (.istore 6, 2) := by decide +kernel
theorem dX10_solveState_11 : decode cX10_solveState 11 = .ok (.iconst 0, 1) := by decide +kernel
theorem dX10_solveState_12 : decode cX10_solveState 12 = .ok (.istore 7, 2) := by decide +kernel
theorem dX10_solveState_14 : decode cX10_solveState 14 = .ok (.iload 7, 2) := by decide +kernel
theorem dX10_solveState_16 : decode cX10_solveState 16 = .ok (.aload_n 0, 1) := by decide +kernel
theorem dX10_solveState_17 : decode cX10_solveState 17 = .ok (.getfield 103, 3) := by decide +kernel
theorem dX10_solveState_20 : decode cX10_solveState 20 = .ok (.if_icmp .ge 117, 3) := by decide +kernel
theorem dX10_solveState_23 : decode cX10_solveState 23 = .ok (.aload_n 0, 1) := by decide +kernel
theorem dX10_solveState_24 : decode cX10_solveState 24 = .ok (.iload 7, 2) := by decide +kernel
theorem dX10_solveState_26 : decode cX10_solveState 26 = .ok (.iload_n 2, 1) := by decide +kernel
theorem dX10_solveState_27 : decode cX10_solveState 27 = .ok (.invokevirtual 286, 3) := by decide +kernel
theorem dX10_solveState_30 : decode cX10_solveState 30 = .ok (.ifCond .eq 97, 3) := by decide +kernel
theorem dX10_solveState_33 : decode cX10_solveState 33 = .ok (.iconst 2, 1) := by decide +kernel
theorem dX10_solveState_34 : decode cX10_solveState 34 = .ok (.iload_n 1, 1) := by decide +kernel
theorem dX10_solveState_35 : decode cX10_solveState 35 = .ok (.iload_n 3, 1) := by decide +kernel
theorem dX10_solveState_36 : decode cX10_solveState 36 = .ok (.iload_n 2, 1) := by decide +kernel
theorem dX10_solveState_37 : decode cX10_solveState 37 = .ok (.iconst 1, 1) := by decide +kernel
theorem dX10_solveState_38 : decode cX10_solveState 38 = .ok (.iadd, 1) := by decide +kernel
theorem dX10_solveState_39 : decode cX10_solveState 39 = .ok (.imul, 1) := by decide +kernel
theorem dX10_solveState_40 : decode cX10_solveState 40 = .ok (.iadd, 1) := by decide +kernel
theorem dX10_solveState_41 : decode cX10_solveState 41 = .ok (.imul, 1) := by decide +kernel
theorem dX10_solveState_42 : decode cX10_solveState 42 = .ok (.iconst 1, 1) := by decide +kernel
theorem dX10_solveState_43 : decode cX10_solveState 43 = .ok (.iadd, 1) := by decide +kernel
theorem dX10_solveState_44 : decode cX10_solveState 44 = .ok (.iload_n 2, 1) := by decide +kernel
theorem dX10_solveState_45 : decode cX10_solveState 45 = .ok (.isub, 1) := by decide +kernel
theorem dX10_solveState_46 : decode cX10_solveState 46 = .ok (.istore 8, 2) := by decide +kernel
theorem dX10_solveState_48 : decode cX10_solveState 48 = .ok (.iload 4, 2) := by decide +kernel
theorem dX10_solveState_50 : decode cX10_solveState 50 = .ok (.ifCond .ne 13, 3) := by decide +kernel
theorem dX10_solveState_53 : decode cX10_solveState 53 = .ok (.aload_n 0, 1) := by decide +kernel
theorem dX10_solveState_54 : decode cX10_solveState 54 = .ok (.getfield 58, 3) := by decide +kernel
theorem dX10_solveState_57 : decode cX10_solveState 57 = .ok (.iload 8, 2) := by decide +kernel
theorem dX10_solveState_59 : decode cX10_solveState 59 = .ok (.baload, 1) := by decide +kernel
theorem dX10_solveState_60 : decode cX10_solveState 60 = .ok (.ifCond .ne 7, 3) := by decide +kernel
theorem dX10_solveState_63 : decode cX10_solveState 63 = .ok (.iconst 1, 1) := by decide +kernel
theorem dX10_solveState_64 : decode cX10_solveState 64 = .ok (.goto 4, 3) := by decide +kernel
theorem dX10_solveState_67 : decode cX10_solveState 67 = .ok (.iconst 0, 1) := by decide +kernel
theorem dX10_solveState_68 : decode cX10_solveState 68 = .ok (.istore 4, 2) := by decide +kernel
theorem dX10_solveState_70 : decode cX10_solveState 70 = .ok (.aload_n 0, 1) := by decide +kernel
theorem dX10_solveState_71 : decode cX10_solveState 71 = .ok (.getfield 62, 3) := by decide +kernel
theorem dX10_solveState_74 : decode cX10_solveState 74 = .ok (.iload 8, 2) := by decide +kernel
theorem dX10_solveState_76 : decode cX10_solveState 76 = .ok (.iaload, 1) := by decide +kernel
theorem dX10_solveState_77 : decode cX10_solveState 77 = .ok (.iload_n 2, 1) := by decide +kernel
theorem dX10_solveState_78 : decode cX10_solveState 78 = .ok (.ifCond .ne 7, 3) := by decide +kernel
theorem dX10_solveState_81 : decode cX10_solveState 81 = .ok (.iconst 1, 1) := by decide +kernel
theorem dX10_solveState_82 : decode cX10_solveState 82 = .ok (.goto 4, 3) := by decide +kernel
theorem dX10_solveState_85 : decode cX10_solveState 85 = .ok (.iconst (-1), 1) := by decide +kernel
theorem dX10_solveState_86 : decode cX10_solveState 86 = .ok (.iadd, 1) := by decide +kernel
theorem dX10_solveState_87 : decode cX10_solveState 87 = .ok (.istore 9, 2) := by decide +kernel
theorem dX10_solveState_89 : decode cX10_solveState 89 = .ok (.iload 6, 2) := by decide +kernel
theorem dX10_solveState_91 : decode cX10_solveState 91 = .ok (.ifCond .eq 24, 3) := by decide +kernel
theorem dX10_solveState_94 : decode cX10_solveState 94 = .ok (.iload_n 2, 1) := by decide +kernel
theorem dX10_solveState_95 : decode cX10_solveState 95 = .ok (.ifCond .ne 13, 3) := by decide +kernel
theorem dX10_solveState_98 : decode cX10_solveState 98 = .ok (.iload 9, 2) := by decide +kernel
theorem dX10_solveState_100 : decode cX10_solveState 100 = .ok (.iload 5, 2) := by decide +kernel
theorem dX10_solveState_102 : decode cX10_solveState 102 = .ok (.if_icmp .le 18, 3) := by decide +kernel
theorem dX10_solveState_105 : decode cX10_solveState 105 = .ok (.goto 10, 3) := by decide +kernel
theorem dX10_solveState_108 : decode cX10_solveState 108 = .ok (.iload 9, 2) := by decide +kernel
theorem dX10_solveState_110 : decode cX10_solveState 110 = .ok (.iload 5, 2) := by decide +kernel
theorem dX10_solveState_112 : decode cX10_solveState 112 = .ok (.if_icmp .ge 8, 3) := by decide +kernel
theorem dX10_solveState_115 : decode cX10_solveState 115 = .ok (.iload 9, 2) := by decide +kernel
theorem dX10_solveState_117 : decode cX10_solveState 117 = .ok (.goto 5, 3) := by decide +kernel
theorem dX10_solveState_120 : decode cX10_solveState 120 = .ok (.iload 5, 2) := by decide +kernel
theorem dX10_solveState_122 : decode cX10_solveState 122 = .ok (.istore 5, 2) := by decide +kernel
theorem dX10_solveState_124 : decode cX10_solveState 124 = .ok (.iinc 6 1, 3) := by decide +kernel
theorem dX10_solveState_127 : decode cX10_solveState 127 = .ok (.iload_n 3, 1) := by decide +kernel
theorem dX10_solveState_128 : decode cX10_solveState 128 = .ok (.iconst 3, 1) := by decide +kernel
theorem dX10_solveState_129 : decode cX10_solveState 129 = .ok (.imul, 1) := by decide +kernel
theorem dX10_solveState_130 : decode cX10_solveState 130 = .ok (.istore_n 3, 1) := by decide +kernel
theorem dX10_solveState_131 : decode cX10_solveState 131 = .ok (.iinc 7 1, 3) := by decide +kernel
theorem dX10_solveState_134 : decode cX10_solveState 134 = .ok (.goto (-120), 3) := by decide +kernel
theorem dX10_solveState_137 : decode cX10_solveState 137 = .ok (.aload_n 0, 1) := by decide +kernel
theorem dX10_solveState_138 : decode cX10_solveState 138 = .ok (.getfield 58, 3) := by decide +kernel
theorem dX10_solveState_141 : decode cX10_solveState 141 = .ok (.iconst 2, 1) := by decide +kernel
theorem dX10_solveState_142 : decode cX10_solveState 142 = .ok (.iload_n 1, 1) := by decide +kernel
theorem dX10_solveState_143 : decode cX10_solveState 143 = .ok (.imul, 1) := by decide +kernel
theorem dX10_solveState_144 : decode cX10_solveState 144 = .ok (.iload_n 2, 1) := by decide +kernel
theorem dX10_solveState_145 : decode cX10_solveState 145 = .ok (.iadd, 1) := by decide +kernel
theorem dX10_solveState_146 : decode cX10_solveState 146 = .ok (.iload 4, 2) := by decide +kernel
theorem dX10_solveState_148 : decode cX10_solveState 148 = .ok (.bastore, 1) := by decide +kernel
theorem dX10_solveState_149 : decode cX10_solveState 149 = .ok (.aload_n 0, 1) := by decide +kernel
theorem dX10_solveState_150 : decode cX10_solveState 150 = .ok (.getfield 62, 3) := by decide +kernel
theorem dX10_solveState_153 : decode cX10_solveState 153 = .ok (.iconst 2, 1) := by decide +kernel
theorem dX10_solveState_154 : decode cX10_solveState 154 = .ok (.iload_n 1, 1) := by decide +kernel
