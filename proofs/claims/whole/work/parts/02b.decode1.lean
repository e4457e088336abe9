theorem dX0_init_0 : decode cX0_init 0 = .ok (.aload_n 0, 1) := by decide +kernel
theorem dX0_init_1 : decode cX0_init 1 = .ok (.invokespecial 3, 3) := by decide +kernel
theorem dX0_init_4 : decode cX0_init 4 = .ok (.aload_n 0, 1) := by decide +kernel
theorem dX0_init_5 : decode cX0_init 5 = .ok (.sipush 128, 3) := by decide +kernel
theorem dX0_init_8 : decode cX0_init 8 = .ok (.newarray .int, 2) := by decide +kernel
theorem dX0_init_10 : decode cX0_init 10 = .ok (.putfield 11, 3) := by decide +kernel
theorem dX0_init_13 : decode cX0_init 13 = .ok (.aload_n 0, 1) := by decide +kernel
theorem dX0_init_14 : decode cX0_init 14 = .ok (.sipush 729, 3) := by decide +kernel
theorem dX0_init_17 : decode cX0_init 17 = .ok (.newarray .int, 2) := by decide +kernel
theorem dX0_init_19 : decode cX0_init 19 = .ok (.putfield 15, 3) := by decide +kernel
theorem dX0_init_22 : decode cX0_init 22 = .ok (.aload_n 0, 1) := by decide +kernel
theorem dX0_init_23 : decode cX0_init 23 = .ok (.iconst 0, 1) := by decide +kernel
theorem dX0_init_24 : decode cX0_init 24 = .ok (.putfield 18, 3) := by decide +kernel
theorem dX0_init_27 : decode cX0_init 27 = .ok (.aload_n 0, 1) := by decide +kernel
theorem dX0_init_28 : decode cX0_init 28 = .ok (.bipush 6, 2) := by decide +kernel
theorem dX0_init_30 : decode cX0_init 30 = .ok (.newarray .int, 2) := by decide +kernel
theorem dX0_init_32 : decode cX0_init 32 = .ok (.putfield 22, 3) := by decide +kernel
theorem dX0_init_35 : decode cX0_init 35 = .ok (.return_, 1) := by decide +kernel
theorem dX0_fewestBetween_0 : decode cX0_fewestBetween 0 = .ok (.aload_n 1, 1) := by decide +kernel
theorem dX0_fewestBetween_1 : decode cX0_fewestBetween 1 = .ok (.invokestatic 25, 3) := by decide +kernel
theorem dX0_fewestBetween_4 : decode cX0_fewestBetween 4 = .ok (.istore_n 3, 1) := by decide +kernel
theorem dX0_fewestBetween_5 : decode cX0_fewestBetween 5 = .ok (.aload_n 2, 1) := by decide +kernel
theorem dX0_fewestBetween_6 : decode cX0_fewestBetween 6 = .ok (.invokestatic 25, 3) := by decide +kernel
theorem dX0_fewestBetween_9 : decode cX0_fewestBetween 9 = .ok (.istore 4, 2) := by decide +kernel
theorem dX0_fewestBetween_11 : decode cX0_fewestBetween 11 = .ok (.iload_n 3, 1) := by decide +kernel
theorem dX0_fewestBetween_12 : decode cX0_fewestBetween 12 = .ok (.iload 4, 2) := by decide +kernel
theorem dX0_fewestBetween_14 : decode cX0_fewestBetween 14 = .ok (.if_icmp .ne 5, 3) := by decide +kernel
theorem dX0_fewestBetween_17 : decode cX0_fewestBetween 17 = .ok (.iconst 0, 1) := by decide +kernel
theorem dX0_fewestBetween_18 : decode cX0_fewestBetween 18 = .ok (.ireturn, 1) := by decide +kernel
theorem dX0_fewestBetween_19 : decode cX0_fewestBetween 19 = .ok (.aload_n 1, 1) := by decide +kernel
theorem dX0_fewestBetween_20 : decode cX0_fewestBetween 20 = .ok (.aload_n 0, 1) := by decide +kernel
theorem dX0_fewestBetween_21 : decode cX0_fewestBetween 21 = .ok (.getfield 22, 3) := by decide +kernel
theorem dX0_fewestBetween_24 : decode cX0_fewestBetween 24 = .ok (.invokevirtual 29, 3) := by decide +kernel
theorem dX0_fewestBetween_27 : decode cX0_fewestBetween 27 = .ok (.aload_n 0, 1) := by decide +kernel
theorem dX0_fewestBetween_28 : decode cX0_fewestBetween 28 = .ok (.aload_n 1, 1) := by decide +kernel
theorem dX0_fewestBetween_29 : decode cX0_fewestBetween 29 = .ok (.iload 4, 2) := by decide +kernel
theorem dX0_fewestBetween_31 : decode cX0_fewestBetween 31 = .ok (.invokevirtual 35, 3) := by decide +kernel
theorem dX0_fewestBetween_34 : decode cX0_fewestBetween 34 = .ok (.ifCond .ne 6, 3) := by decide +kernel
theorem dX0_fewestBetween_37 : decode cX0_fewestBetween 37 = .ok (.bipush (-4), 2) := by decide +kernel
theorem dX0_fewestBetween_39 : decode cX0_fewestBetween 39 = .ok (.ireturn, 1) := by decide +kernel
theorem dX0_fewestBetween_40 : decode cX0_fewestBetween 40 = .ok (.aload_n 0, 1) := by decide +kernel
theorem dX0_fewestBetween_41 : decode cX0_fewestBetween 41 = .ok (.getfield 11, 3) := by decide +kernel
theorem dX0_fewestBetween_44 : decode cX0_fewestBetween 44 = .ok (.iconst 0, 1) := by decide +kernel
theorem dX0_fewestBetween_45 : decode cX0_fewestBetween 45 = .ok (.invokestatic 39, 3) := by decide +kernel
theorem dX0_fewestBetween_48 : decode cX0_fewestBetween 48 = .ok (.aload_n 0, 1) := by decide +kernel
theorem dX0_fewestBetween_49 : decode cX0_fewestBetween 49 = .ok (.iconst 0, 1) := by decide +kernel
theorem dX0_fewestBetween_50 : decode cX0_fewestBetween 50 = .ok (.putfield 18, 3) := by decide +kernel
theorem dX0_fewestBetween_53 : decode cX0_fewestBetween 53 = .ok (.aload_n 0, 1) := by decide +kernel
theorem dX0_fewestBetween_54 : decode cX0_fewestBetween 54 = .ok (.iload_n 3, 1) := by decide +kernel
theorem dX0_fewestBetween_55 : decode cX0_fewestBetween 55 = .ok (.invokevirtual 45, 3) := by decide +kernel
theorem dX0_fewestBetween_58 : decode cX0_fewestBetween 58 = .ok (.aload_n 0, 1) := by decide +kernel
theorem dX0_fewestBetween_59 : decode cX0_fewestBetween 59 = .ok (.iload_n 3, 1) := by decide +kernel
theorem dX0_fewestBetween_60 : decode cX0_fewestBetween 60 = .ok (.invokevirtual 49, 3) := by decide +kernel
theorem dX0_fewestBetween_63 : decode cX0_fewestBetween 63 = .ok (.iconst 0, 1) := by decide +kernel
theorem dX0_fewestBetween_64 : decode cX0_fewestBetween 64 = .ok (.istore 5, 2) := by decide +kernel
theorem dX0_fewestBetween_66 : decode cX0_fewestBetween 66 = .ok (.iconst 1, 1) := by decide +kernel
theorem dX0_fewestBetween_67 : decode cX0_fewestBetween 67 = .ok (.istore 6, 2) := by decide +kernel
theorem dX0_fewestBetween_69 : decode cX0_fewestBetween 69 = .ok (.iload 6, 2) := by decide +kernel
theorem dX0_fewestBetween_71 : decode cX0_fewestBetween 71 = .ok (.sipush 729, 3) := by decide +kernel
theorem dX0_fewestBetween_74 : decode cX0_fewestBetween 74 = .ok (.if_icmp .ge 73, 3) := by decide +kernel
theorem dX0_fewestBetween_77 : decode cX0_fewestBetween 77 = .ok (.iload 5, 2) := by decide +kernel
theorem dX0_fewestBetween_79 : decode cX0_fewestBetween 79 = .ok (.aload_n 0, 1) := by decide +kernel
theorem dX0_fewestBetween_80 : decode cX0_fewestBetween 80 = .ok (.getfield 18, 3) := by decide +kernel
theorem dX0_fewestBetween_83 : decode cX0_fewestBetween 83 = .ok (.if_icmp .ge 64, 3) := by decide +kernel
theorem dX0_fewestBetween_86 : decode cX0_fewestBetween 86 = .ok (.aload_n 0, 1) := by decide +kernel
theorem dX0_fewestBetween_87 : decode cX0_fewestBetween 87 = .ok (.getfield 18, 3) := by decide +kernel
theorem dX0_fewestBetween_90 : decode cX0_fewestBetween 90 = .ok (.istore 7, 2) := by decide +kernel
theorem dX0_fewestBetween_92 : decode cX0_fewestBetween 92 = .ok (.iload 5, 2) := by decide +kernel
theorem dX0_fewestBetween_94 : decode cX0_fewestBetween 94 = .ok (.iload 7, 2) := by decide +kernel
theorem dX0_fewestBetween_96 : decode cX0_fewestBetween 96 = .ok (.if_icmp .ge 33, 3) := by decide +kernel
theorem dX0_fewestBetween_99 : decode cX0_fewestBetween 99 = .ok (.iload 5, 2) := by decide +kernel
theorem dX0_fewestBetween_101 : decode cX0_fewestBetween 101 = .ok (.aload_n 0, 1) := by decide +kernel
theorem dX0_fewestBetween_102 : decode cX0_fewestBetween 102 = .ok (.getfield 15, 3) := by decide +kernel
theorem dX0_fewestBetween_105 : decode cX0_fewestBetween 105 = .ok (.arraylength, 1) := by decide +kernel
theorem dX0_fewestBetween_106 : decode cX0_fewestBetween 106 = .ok (.if_icmp .ge 23, 3) := by decide +kernel
theorem dX0_fewestBetween_109 : decode cX0_fewestBetween 109 = .ok (.aload_n 0, 1) := by decide +kernel
theorem dX0_fewestBetween_110 : decode cX0_fewestBetween 110 = .ok (.aload_n 1, 1) := by decide +kernel
theorem dX0_fewestBetween_111 : decode cX0_fewestBetween 111 = .ok (.aload_n 0, 1) := by decide +kernel
theorem dX0_fewestBetween_112 : decode cX0_fewestBetween 112 = .ok (.getfield 15, 3) := by decide +kernel
theorem dX0_fewestBetween_115 : decode cX0_fewestBetween 115 = .ok (.iload 5, 2) := by decide +kernel
theorem dX0_fewestBetween_117 : decode cX0_fewestBetween 117 = .ok (.iaload, 1) := by decide +kernel
theorem dX0_fewestBetween_118 : decode cX0_fewestBetween 118 = .ok (.iload 4, 2) := by decide +kernel
theorem dX0_fewestBetween_120 : decode cX0_fewestBetween 120 = .ok (.invokevirtual 52, 3) := by decide +kernel
theorem dX0_fewestBetween_123 : decode cX0_fewestBetween 123 = .ok (.iinc 5 1, 3) := by decide +kernel
theorem dX0_fewestBetween_126 : decode cX0_fewestBetween 126 = .ok (.goto (-34), 3) := by decide +kernel
theorem dX0_fewestBetween_129 : decode cX0_fewestBetween 129 = .ok (.aload_n 0, 1) := by decide +kernel
theorem dX0_fewestBetween_130 : decode cX0_fewestBetween 130 = .ok (.iload 4, 2) := by decide +kernel
theorem dX0_fewestBetween_132 : decode cX0_fewestBetween 132 = .ok (.invokevirtual 56, 3) := by decide +kernel
theorem dX0_fewestBetween_135 : decode cX0_fewestBetween 135 = .ok (.ifCond .eq 6, 3) := by decide +kernel
theorem dX0_fewestBetween_138 : decode cX0_fewestBetween 138 = .ok (.iload 6, 2) := by decide +kernel
theorem dX0_fewestBetween_140 : decode cX0_fewestBetween 140 = .ok (.ireturn, 1) := by decide +kernel
theorem dX0_fewestBetween_141 : decode cX0_fewestBetween 141 = .ok (.iinc 6 1, 3) := by decide +kernel
theorem dX0_fewestBetween_144 : decode cX0_fewestBetween 144 = .ok (.goto (-75), 3) := by decide +kernel
theorem dX0_fewestBetween_147 : decode cX0_fewestBetween 147 = .ok (.bipush (-4), 2) := by decide +kernel
theorem dX0_fewestBetween_149 : decode cX0_fewestBetween 149 = .ok (.ireturn, 1) := by decide +kernel
theorem dX0_widenFrom_0 : decode cX0_widenFrom 0 = .ok (.iconst 0, 1) := by decide +kernel
theorem dX0_widenFrom_1 : decode cX0_widenFrom 1 = .ok (.istore 4, 2) := by decide +kernel
theorem dX0_widenFrom_3 : decode cX0_widenFrom 3 = .ok (.iload 4, 2) := by decide +kernel
theorem dX0_widenFrom_5 : decode cX0_widenFrom 5 = .ok (.aload_n 1, 1) := by decide +kernel
theorem dX0_widenFrom_6 : decode cX0_widenFrom 6 = .ok (.getfield 60, 3) := by decide +kernel
theorem dX0_widenFrom_9 : decode cX0_widenFrom 9 = .ok (.if_icmp .ge 42, 3) := by decide +kernel
theorem dX0_widenFrom_12 : decode cX0_widenFrom 12 = .ok (.iconst 3, 1) := by decide +kernel
theorem dX0_widenFrom_13 : decode cX0_widenFrom 13 = .ok (.iconst 2, 1) := by decide +kernel
theorem dX0_widenFrom_14 : decode cX0_widenFrom 14 = .ok (.iload 4, 2) := by decide +kernel
theorem dX0_widenFrom_16 : decode cX0_widenFrom 16 = .ok (.imul, 1) := by decide +kernel
theorem dX0_widenFrom_17 : decode cX0_widenFrom 17 = .ok (.ishl, 1) := by decide +kernel
theorem dX0_widenFrom_18 : decode cX0_widenFrom 18 = .ok (.istore 5, 2) := by decide +kernel
theorem dX0_widenFrom_20 : decode cX0_widenFrom 20 = .ok (.aload_n 0, 1) := by decide +kernel
theorem dX0_widenFrom_21 : decode cX0_widenFrom 21 = .ok (.aload_n 1, 1) := by decide +kernel
theorem dX0_widenFrom_22 : decode cX0_widenFrom 22 = .ok (.iload_n 2, 1) := by decide +kernel
theorem dX0_widenFrom_23 : decode cX0_widenFrom 23 = .ok (.iload 5, 2) := by decide +kernel
theorem dX0_widenFrom_25 : decode cX0_widenFrom 25 = .ok (.ior, 1) := by decide +kernel
theorem dX0_widenFrom_26 : decode cX0_widenFrom 26 = .ok (.invokevirtual 63, 3) := by decide +kernel
theorem dX0_widenFrom_29 : decode cX0_widenFrom 29 = .ok (.aload_n 0, 1) := by decide +kernel
theorem dX0_widenFrom_30 : decode cX0_widenFrom 30 = .ok (.aload_n 1, 1) := by decide +kernel
theorem dX0_widenFrom_31 : decode cX0_widenFrom 31 = .ok (.iload_n 2, 1) := by decide +kernel
theorem dX0_widenFrom_32 : decode cX0_widenFrom 32 = .ok (.iload 5, 2) := by decide +kernel
theorem dX0_widenFrom_34 : decode cX0_widenFrom 34 = .ok (.iconst (-1), 1) := by decide +kernel
theorem dX0_widenFrom_35 : decode cX0_widenFrom 35 = .ok (.ixor, 1) := by decide +kernel
theorem dX0_widenFrom_36 : decode cX0_widenFrom 36 = .ok (.iand, 1) := by decide +kernel
theorem dX0_widenFrom_37 : decode cX0_widenFrom 37 = .ok (.iload_n 3, 1) := by decide +kernel
theorem dX0_widenFrom_38 : decode cX0_widenFrom 38 = .ok (.iload 5, 2) := by decide +kernel
theorem dX0_widenFrom_40 : decode cX0_widenFrom 40 = .ok (.iand, 1) := by decide +kernel
theorem dX0_widenFrom_41 : decode cX0_widenFrom 41 = .ok (.ior, 1) := by decide +kernel
theorem dX0_widenFrom_42 : decode cX0_widenFrom 42 = .ok (.invokevirtual 63, 3) := by decide +kernel
theorem dX0_widenFrom_45 : decode cX0_widenFrom 45 = .ok (.iinc 4 1, 3) := by decide +kernel
theorem dX0_widenFrom_48 : decode cX0_widenFrom 48 = .ok (.goto (-45), 3) := by decide +kernel
theorem dX0_widenFrom_51 : decode cX0_widenFrom 51 = .ok (.return_, 1) := by decide +kernel
theorem dX0_look_0 : decode cX0_look 0 = .ok (.aload_n 0, 1) := by decide +kernel
theorem dX0_look_1 : decode cX0_look 1 = .ok (.iload_n 2, 1) := by decide +kernel
theorem dX0_look_2 : decode cX0_look 2 = .ok (.invokevirtual 56, 3) := by decide +kernel
theorem dX0_look_5 : decode cX0_look 5 = .ok (.ifCond .ne 22, 3) := by decide +kernel
theorem dX0_look_8 : decode cX0_look 8 = .ok (.aload_n 0, 1) := by decide +kernel
theorem dX0_look_9 : decode cX0_look 9 = .ok (.iload_n 2, 1) := by decide +kernel
theorem dX0_look_10 : decode cX0_look 10 = .ok (.invokevirtual 45, 3) := by decide +kernel
theorem dX0_look_13 : decode cX0_look 13 = .ok (.aload_n 0, 1) := by decide +kernel
theorem dX0_look_14 : decode cX0_look 14 = .ok (.aload_n 1, 1) := by decide +kernel
theorem dX0_look_15 : decode cX0_look 15 = .ok (.iload_n 2, 1) := by decide +kernel
theorem dX0_look_16 : decode cX0_look 16 = .ok (.invokevirtual 35, 3) := by decide +kernel
theorem dX0_look_19 : decode cX0_look 19 = .ok (.ifCond .eq 8, 3) := by decide +kernel
theorem dX0_look_22 : decode cX0_look 22 = .ok (.aload_n 0, 1) := by decide +kernel
theorem dX0_look_23 : decode cX0_look 23 = .ok (.iload_n 2, 1) := by decide +kernel
theorem dX0_look_24 : decode cX0_look 24 = .ok (.invokevirtual 49, 3) := by decide +kernel
theorem dX0_look_27 : decode cX0_look 27 = .ok (.return_, 1) := by decide +kernel
theorem dX0_reach_0 : decode cX0_reach 0 = .ok (.aload_n 0, 1) := by decide +kernel
theorem dX0_reach_1 : decode cX0_reach 1 = .ok (.getfield 18, 3) := by decide +kernel
theorem dX0_reach_4 : decode cX0_reach 4 = .ok (.ifCond .lt 35, 3) := by decide +kernel
theorem dX0_reach_7 : decode cX0_reach 7 = .ok (.aload_n 0, 1) := by decide +kernel
theorem dX0_reach_8 : decode cX0_reach 8 = .ok (.getfield 18, 3) := by decide +kernel
theorem dX0_reach_11 : decode cX0_reach 11 = .ok (.aload_n 0, 1) := by decide +kernel
theorem dX0_reach_12 : decode cX0_reach 12 = .ok (.getfield 15, 3) := by decide +kernel
theorem dX0_reach_15 : decode cX0_reach 15 = .ok (.arraylength, 1) := by decide +kernel
theorem dX0_reach_16 : decode cX0_reach 16 = .ok (.if_icmp .ge 23, 3) := by decide +kernel
theorem dX0_reach_19 : decode cX0_reach 19 = .ok (.aload_n 0, 1) := by decide +kernel
theorem dX0_reach_20 : decode cX0_reach 20 = .ok (.getfield 15, 3) := by decide +kernel
theorem dX0_reach_23 : decode cX0_reach 23 = .ok (.aload_n 0, 1) := by decide +kernel
theorem dX0_reach_24 : decode cX0_reach 24 = .ok (.getfield 18, 3) := by decide +kernel
theorem dX0_reach_27 : decode cX0_reach 27 = .ok (.iload_n 1, 1) := by decide +kernel
theorem dX0_reach_28 : decode cX0_reach 28 = .ok (.iastore, 1) := by decide +kernel
theorem dX0_reach_29 : decode cX0_reach 29 = .ok (.aload_n 0, 1) := by decide +kernel
theorem dX0_reach_30 : decode cX0_reach 30 = .ok (.dup, 1) := by decide +kernel
theorem dX0_reach_31 : decode cX0_reach 31 = .ok (.getfield 18, 3) := by decide +kernel
theorem dX0_reach_34 : decode cX0_reach 34 = .ok (.iconst 1, 1) := by decide +kernel
theorem dX0_reach_35 : decode cX0_reach 35 = .ok (.iadd, 1) := by decide +kernel
theorem dX0_reach_36 : decode cX0_reach 36 = .ok (.putfield 18, 3) := by decide +kernel
theorem dX0_reach_39 : decode cX0_reach 39 = .ok (.return_, 1) := by decide +kernel
theorem dX0_isLawful_0 : decode cX0_isLawful 0 = .ok (.iconst 0, 1) := by decide +kernel
theorem dX0_isLawful_1 : decode cX0_isLawful 1 = .ok (.istore_n 3, 1) := by decide +kernel
theorem dX0_isLawful_2 : decode cX0_isLawful 2 = .ok (.iload_n 3, 1) := by decide +kernel
theorem dX0_isLawful_3 : decode cX0_isLawful 3 = .ok (.aload_n 0, 1) := by decide +kernel
theorem dX0_isLawful_4 : decode cX0_isLawful 4 = .ok (.getfield 22, 3) := by decide +kernel
theorem dX0_isLawful_7 : decode cX0_isLawful 7 = .ok (.arraylength, 1) := by decide +kernel
theorem dX0_isLawful_8 : decode cX0_isLawful 8 = .ok (.if_icmp .ge 81, 3) := by decide +kernel
theorem dX0_isLawful_11 : decode cX0_isLawful 11 = .ok (.iload_n 3, 1) := by decide +kernel
theorem dX0_isLawful_12 : decode cX0_isLawful 12 = .ok (.iconst 1, 1) := by decide +kernel
theorem dX0_isLawful_13 : decode cX0_isLawful 13 = .ok (.iadd, 1) := by decide +kernel
theorem dX0_isLawful_14 : decode cX0_isLawful 14 = .ok (.istore 4, 2) := by decide +kernel
theorem dX0_isLawful_16 : decode cX0_isLawful 16 = .ok (.iload 4, 2) := by decide +kernel
theorem dX0_isLawful_18 : decode cX0_isLawful 18 = .ok (.aload_n 0, 1) := by decide +kernel
theorem dX0_isLawful_19 : decode cX0_isLawful 19 = .ok (.getfield 22, 3) := by decide +kernel
theorem dX0_isLawful_22 : decode cX0_isLawful 22 = .ok (.arraylength, 1) := by decide +kernel
theorem dX0_isLawful_23 : decode cX0_isLawful 23 = .ok (.if_icmp .ge 60, 3) := by decide +kernel
theorem dX0_isLawful_26 : decode cX0_isLawful 26 = .ok (.aload_n 0, 1) := by decide +kernel
theorem dX0_isLawful_27 : decode cX0_isLawful 27 = .ok (.getfield 22, 3) := by decide +kernel
theorem dX0_isLawful_30 : decode cX0_isLawful 30 = .ok (.iload_n 3, 1) := by decide +kernel
theorem dX0_isLawful_31 : decode cX0_isLawful 31 = .ok (.iaload, 1) := by decide +kernel
theorem dX0_isLawful_32 : decode cX0_isLawful 32 = .ok (.iload 4, 2) := by decide +kernel
theorem dX0_isLawful_34 : decode cX0_isLawful 34 = .ok (.ishr, 1) := by decide +kernel
theorem dX0_isLawful_35 : decode cX0_isLawful 35 = .ok (.iconst 1, 1) := by decide +kernel
theorem dX0_isLawful_36 : decode cX0_isLawful 36 = .ok (.iand, 1) := by decide +kernel
theorem dX0_isLawful_37 : decode cX0_isLawful 37 = .ok (.iconst 1, 1) := by decide +kernel
theorem dX0_isLawful_38 : decode cX0_isLawful 38 = .ok (.if_icmp .ne 7, 3) := by decide +kernel
theorem dX0_isLawful_41 : decode cX0_isLawful 41 = .ok (.iconst 1, 1) := by decide +kernel
theorem dX0_isLawful_42 : decode cX0_isLawful 42 = .ok (.goto 4, 3) := by decide +kernel
theorem dX0_isLawful_45 : decode cX0_isLawful 45 = .ok (.iconst 0, 1) := by decide +kernel
theorem dX0_isLawful_46 : decode cX0_isLawful 46 = .ok (.istore 5, 2) := by decide +kernel
theorem dX0_isLawful_48 : decode cX0_isLawful 48 = .ok (.iload 5, 2) := by decide +kernel
theorem dX0_isLawful_50 : decode cX0_isLawful 50 = .ok (.ifCond .eq 27, 3) := by decide +kernel
theorem dX0_isLawful_53 : decode cX0_isLawful 53 = .ok (.aload_n 1, 1) := by decide +kernel
theorem dX0_isLawful_54 : decode cX0_isLawful 54 = .ok (.iload_n 2, 1) := by decide +kernel
theorem dX0_isLawful_55 : decode cX0_isLawful 55 = .ok (.iconst 2, 1) := by decide +kernel
theorem dX0_isLawful_56 : decode cX0_isLawful 56 = .ok (.iload_n 3, 1) := by decide +kernel
theorem dX0_isLawful_57 : decode cX0_isLawful 57 = .ok (.imul, 1) := by decide +kernel
theorem dX0_isLawful_58 : decode cX0_isLawful 58 = .ok (.ishr, 1) := by decide +kernel
theorem dX0_isLawful_59 : decode cX0_isLawful 59 = .ok (.iconst 3, 1) := by decide +kernel
theorem dX0_isLawful_60 : decode cX0_isLawful 60 = .ok (.iand, 1) := by decide +kernel
theorem dX0_isLawful_61 : decode cX0_isLawful 61 = .ok (.iload_n 2, 1) := by decide +kernel
theorem dX0_isLawful_62 : decode cX0_isLawful 62 = .ok (.iconst 2, 1) := by decide +kernel
theorem dX0_isLawful_63 : decode cX0_isLawful 63 = .ok (.iload 4, 2) := by decide +kernel
theorem dX0_isLawful_65 : decode cX0_isLawful 65 = .ok (.imul, 1) := by decide +kernel
theorem dX0_isLawful_66 : decode cX0_isLawful 66 = .ok (.ishr, 1) := by decide +kernel
theorem dX0_isLawful_67 : decode cX0_isLawful 67 = .ok (.iconst 3, 1) := by decide +kernel
theorem dX0_isLawful_68 : decode cX0_isLawful 68 = .ok (.iand, 1) := by decide +kernel
theorem dX0_isLawful_69 : decode cX0_isLawful 69 = .ok (.invokevirtual 67, 3) := by decide +kernel
theorem dX0_isLawful_72 : decode cX0_isLawful 72 = .ok (.ifCond .eq 5, 3) := by decide +kernel
theorem dX0_isLawful_75 : decode cX0_isLawful 75 = .ok (.iconst 0, 1) := by decide +kernel
theorem dX0_isLawful_76 : decode cX0_isLawful 76 = .ok (.ireturn, 1) := by decide +kernel
theorem dX0_isLawful_77 : decode cX0_isLawful 77 = .ok (.iinc 4 1, 3) := by decide +kernel
theorem dX0_isLawful_80 : decode cX0_isLawful 80 = .ok (.goto (-64), 3) := by decide +kernel
theorem dX0_isLawful_83 : decode cX0_isLawful 83 = .ok (.iinc 3 1, 3) := by decide +kernel
theorem dX0_isLawful_86 : decode cX0_isLawful 86 = .ok (.goto (-84), 3) := by decide +kernel
theorem dX0_isLawful_89 : decode cX0_isLawful 89 = .ok (.iconst 1, 1) := by decide +kernel
theorem dX0_isLawful_90 : decode cX0_isLawful 90 = .ok (.ireturn, 1) := by decide +kernel
theorem dX0_codeOf_0 : decode cX0_codeOf 0 = .ok (.iconst 0, 1) := by decide +kernel
theorem dX0_codeOf_1 : decode cX0_codeOf 1 = .ok (.istore_n 1, 1) := by decide +kernel
theorem dX0_codeOf_2 : decode cX0_codeOf 2 = .ok (.iconst 0, 1) := by decide +kernel
theorem dX0_codeOf_3 : decode cX0_codeOf 3 = .ok (.istore_n 2, 1) := by decide +kernel
theorem dX0_codeOf_4 : decode cX0_codeOf 4 = .ok (.iload_n 2, 1) := by decide +kernel
theorem dX0_codeOf_5 : decode cX0_codeOf 5 = .ok (.aload_n 0, 1) := by decide +kernel
theorem dX0_codeOf_6 : decode cX0_codeOf 6 = .ok (.getfield 60, 3) := by decide +kernel
theorem dX0_codeOf_9 : decode cX0_codeOf 9 = .ok (.if_icmp .ge 33, 3) := by decide +kernel
theorem dX0_codeOf_12 : decode cX0_codeOf 12 = .ok (.aload_n 0, 1) := by decide +kernel
theorem dX0_codeOf_13 : decode cX0_codeOf 13 = .ok (.iload_n 2, 1) := by decide +kernel
theorem dX0_codeOf_14 : decode cX0_codeOf 14 = .ok (.invokevirtual 71, 3) := by decide +kernel
theorem dX0_codeOf_17 : decode cX0_codeOf 17 = .ok (.istore_n 3, 1) := by decide +kernel
theorem dX0_codeOf_18 : decode cX0_codeOf 18 = .ok (.iload_n 1, 1) := by decide +kernel
theorem dX0_codeOf_19 : decode cX0_codeOf 19 = .ok (.iload_n 3, 1) := by decide +kernel
theorem dX0_codeOf_20 : decode cX0_codeOf 20 = .ok (.bipush 9, 2) := by decide +kernel
theorem dX0_codeOf_22 : decode cX0_codeOf 22 = .ok (.if_icmp .ne 7, 3) := by decide +kernel
theorem dX0_codeOf_25 : decode cX0_codeOf 25 = .ok (.iconst 3, 1) := by decide +kernel
theorem dX0_codeOf_26 : decode cX0_codeOf 26 = .ok (.goto 4, 3) := by decide +kernel
theorem dX0_codeOf_29 : decode cX0_codeOf 29 = .ok (.iload_n 3, 1) := by decide +kernel
theorem dX0_codeOf_30 : decode cX0_codeOf 30 = .ok (.iconst 2, 1) := by decide +kernel
theorem dX0_codeOf_31 : decode cX0_codeOf 31 = .ok (.iload_n 2, 1) := by decide +kernel
theorem dX0_codeOf_32 : decode cX0_codeOf 32 = .ok (.imul, 1) := by decide +kernel
theorem dX0_codeOf_33 : decode cX0_codeOf 33 = .ok (.ishl, 1) := by decide +kernel
theorem dX0_codeOf_34 : decode cX0_codeOf 34 = .ok (.ior, 1) := by decide +kernel
theorem dX0_codeOf_35 : decode cX0_codeOf 35 = .ok (.istore_n 1, 1) := by decide +kernel
theorem dX0_codeOf_36 : decode cX0_codeOf 36 = .ok (.iinc 2 1, 3) := by decide +kernel
theorem dX0_codeOf_39 : decode cX0_codeOf 39 = .ok (.goto (-35), 3) := by decide +kernel
theorem dX0_codeOf_42 : decode cX0_codeOf 42 = .ok (.iload_n 1, 1) := by decide +kernel
theorem dX0_codeOf_43 : decode cX0_codeOf 43 = .ok (.ireturn, 1) := by decide +kernel
theorem dX0_isSeen_0 : decode cX0_isSeen 0 = .ok (.iload_n 1, 1) := by decide +kernel
theorem dX0_isSeen_1 : decode cX0_isSeen 1 = .ok (.ifCond .lt 34, 3) := by decide +kernel
theorem dX0_isSeen_4 : decode cX0_isSeen 4 = .ok (.iload_n 1, 1) := by decide +kernel
theorem dX0_isSeen_5 : decode cX0_isSeen 5 = .ok (.sipush 4096, 3) := by decide +kernel
theorem dX0_isSeen_8 : decode cX0_isSeen 8 = .ok (.if_icmp .ge 27, 3) := by decide +kernel
theorem dX0_isSeen_11 : decode cX0_isSeen 11 = .ok (.aload_n 0, 1) := by decide +kernel
theorem dX0_isSeen_12 : decode cX0_isSeen 12 = .ok (.getfield 11, 3) := by decide +kernel
theorem dX0_isSeen_15 : decode cX0_isSeen 15 = .ok (.iload_n 1, 1) := by decide +kernel
theorem dX0_isSeen_16 : decode cX0_isSeen 16 = .ok (.bipush 32, 2) := by decide +kernel
theorem dX0_isSeen_18 : decode cX0_isSeen 18 = .ok (.idiv, 1) := by decide +kernel
theorem dX0_isSeen_19 : decode cX0_isSeen 19 = .ok (.iaload, 1) := by decide +kernel
theorem dX0_isSeen_20 : decode cX0_isSeen 20 = .ok (.iload_n 1, 1) := by decide +kernel
theorem dX0_isSeen_21 : decode cX0_isSeen 21 = .ok (.bipush 32, 2) := by decide +kernel
theorem dX0_isSeen_23 : decode cX0_isSeen 23 = .ok (.irem, 1) := by decide +kernel
theorem dX0_isSeen_24 : decode cX0_isSeen 24 = .ok (.ishr, 1) := by decide +kernel
theorem dX0_isSeen_25 : decode cX0_isSeen 25 = .ok (.iconst 1, 1) := by decide +kernel
theorem dX0_isSeen_26 : decode cX0_isSeen 26 = .ok (.iand, 1) := by decide +kernel
theorem dX0_isSeen_27 : decode cX0_isSeen 27 = .ok (.iconst 1, 1) := by decide +kernel
theorem dX0_isSeen_28 : decode cX0_isSeen 28 = .ok (.if_icmp .ne 7, 3) := by decide +kernel
theorem dX0_isSeen_31 : decode cX0_isSeen 31 = .ok (.iconst 1, 1) := by decide +kernel
theorem dX0_isSeen_32 : decode cX0_isSeen 32 = .ok (.goto 4, 3) := by decide +kernel
theorem dX0_isSeen_35 : decode cX0_isSeen 35 = .ok (.iconst 0, 1) := by decide +kernel
theorem dX0_isSeen_36 : decode cX0_isSeen 36 = .ok (.ireturn, 1) := by decide +kernel
theorem dX0_markSeen_0 : decode cX0_markSeen 0 = .ok (.iload_n 1, 1) := by decide +kernel
theorem dX0_markSeen_1 : decode cX0_markSeen 1 = .ok (.ifCond .lt 28, 3) := by decide +kernel
theorem dX0_markSeen_4 : decode cX0_markSeen 4 = .ok (.iload_n 1, 1) := by decide +kernel
theorem dX0_markSeen_5 : decode cX0_markSeen 5 = .ok (.sipush 4096, 3) := by decide +kernel
theorem dX0_markSeen_8 : decode cX0_markSeen 8 = .ok (.if_icmp .ge 21, 3) := by decide +kernel
theorem dX0_markSeen_11 : decode cX0_markSeen 11 = .ok (.aload_n 0, 1) := by decide +kernel
theorem dX0_markSeen_12 : decode cX0_markSeen 12 = .ok (.getfield 11, 3) := by decide +kernel
theorem dX0_markSeen_15 : decode cX0_markSeen 15 = .ok (.iload_n 1, 1) := by decide +kernel
theorem dX0_markSeen_16 : decode cX0_markSeen 16 = .ok (.bipush 32, 2) := by decide +kernel
theorem dX0_markSeen_18 : decode cX0_markSeen 18 = .ok (.idiv, 1) := by decide +kernel
theorem dX0_markSeen_19 : decode cX0_markSeen 19 = .ok (.dup2, 1) := by decide +kernel
theorem dX0_markSeen_20 : decode cX0_markSeen 20 = .ok (.iaload, 1) := by decide +kernel
theorem dX0_markSeen_21 : decode cX0_markSeen 21 = .ok (.iconst 1, 1) := by decide +kernel
theorem dX0_markSeen_22 : decode cX0_markSeen 22 = .ok (.iload_n 1, 1) := by decide +kernel
theorem dX0_markSeen_23 : decode cX0_markSeen 23 = .ok (.bipush 32, 2) := by decide +kernel
theorem dX0_markSeen_25 : decode cX0_markSeen 25 = .ok (.irem, 1) := by decide +kernel
theorem dX0_markSeen_26 : decode cX0_markSeen 26 = .ok (.ishl, 1) := by decide +kernel
theorem dX0_markSeen_27 : decode cX0_markSeen 27 = .ok (.ior, 1) := by decide +kernel
theorem dX0_markSeen_28 : decode cX0_markSeen 28 = .ok (.iastore, 1) := by decide +kernel
theorem dX0_markSeen_29 : decode cX0_markSeen 29 = .ok (.return_, 1) := by decide +kernel
theorem dX1_init_0 : decode cX1_init 0 = .ok (.aload_n 0, 1) := by decide +kernel
theorem dX1_init_1 : decode cX1_init 1 = .ok (.invokespecial 3, 3) := by decide +kernel
theorem dX1_init_4 : decode cX1_init 4 = .ok (.aload_n 0, 1) := by decide +kernel
theorem dX1_init_5 : decode cX1_init 5 = .ok (.iconst 0, 1) := by decide +kernel
theorem dX1_init_6 : decode cX1_init 6 = .ok (.putfield 9, 3) := by decide +kernel
theorem dX1_init_9 : decode cX1_init 9 = .ok (.aload_n 0, 1) := by decide +kernel
theorem dX1_init_10 : decode cX1_init 10 = .ok (.bipush 8, 2) := by decide +kernel
theorem dX1_init_12 : decode cX1_init 12 = .ok (.newarray .int, 2) := by decide +kernel
theorem dX1_init_14 : decode cX1_init 14 = .ok (.putfield 15, 3) := by decide +kernel
theorem dX1_init_17 : decode cX1_init 17 = .ok (.return_, 1) := by decide +kernel
theorem dX1_write_0 : decode cX1_write 0 = .ok (.aload_n 2, 1) := by decide +kernel
theorem dX1_write_1 : decode cX1_write 1 = .ok (.getfield 19, 3) := by decide +kernel
theorem dX1_write_4 : decode cX1_write 4 = .ok (.iconst 3, 1) := by decide +kernel
theorem dX1_write_5 : decode cX1_write 5 = .ok (.irem, 1) := by decide +kernel
theorem dX1_write_6 : decode cX1_write 6 = .ok (.ifCond .ne 14, 3) := by decide +kernel
theorem dX1_write_9 : decode cX1_write 9 = .ok (.aload_n 2, 1) := by decide +kernel
theorem dX1_write_10 : decode cX1_write 10 = .ok (.getfield 19, 3) := by decide +kernel
theorem dX1_write_13 : decode cX1_write 13 = .ok (.iconst 3, 1) := by decide +kernel
theorem dX1_write_14 : decode cX1_write 14 = .ok (.idiv, 1) := by decide +kernel
theorem dX1_write_15 : decode cX1_write 15 = .ok (.bipush 8, 2) := by decide +kernel
theorem dX1_write_17 : decode cX1_write 17 = .ok (.if_icmp .le 5, 3) := by decide +kernel
theorem dX1_write_20 : decode cX1_write 20 = .ok (.iconst 0, 1) := by decide +kernel
theorem dX1_write_21 : decode cX1_write 21 = .ok (.ireturn, 1) := by decide +kernel
theorem dX1_write_22 : decode cX1_write 22 = .ok (.aload_n 0, 1) := by decide +kernel
theorem dX1_write_23 : decode cX1_write 23 = .ok (.aload_n 2, 1) := by decide +kernel
theorem dX1_write_24 : decode cX1_write 24 = .ok (.getfield 19, 3) := by decide +kernel
theorem dX1_write_27 : decode cX1_write 27 = .ok (.iconst 3, 1) := by decide +kernel
theorem dX1_write_28 : decode cX1_write 28 = .ok (.idiv, 1) := by decide +kernel
theorem dX1_write_29 : decode cX1_write 29 = .ok (.putfield 9, 3) := by decide +kernel
theorem dX1_write_32 : decode cX1_write 32 = .ok (.iconst 0, 1) := by decide +kernel
theorem dX1_write_33 : decode cX1_write 33 = .ok (.istore_n 3, 1) := by decide +kernel
theorem dX1_write_34 : decode cX1_write 34 = .ok (.iload_n 3, 1) := by decide +kernel
theorem dX1_write_35 : decode cX1_write 35 = .ok (.aload_n 0, 1) := by decide +kernel
theorem dX1_write_36 : decode cX1_write 36 = .ok (.getfield 9, 3) := by decide +kernel
theorem dX1_write_39 : decode cX1_write 39 = .ok (.if_icmp .ge 22, 3) := by decide +kernel
theorem dX1_write_42 : decode cX1_write 42 = .ok (.aload_n 1, 1) := by decide +kernel
theorem dX1_write_43 : decode cX1_write 43 = .ok (.aload_n 2, 1) := by decide +kernel
theorem dX1_write_44 : decode cX1_write 44 = .ok (.iconst 3, 1) := by decide +kernel
theorem dX1_write_45 : decode cX1_write 45 = .ok (.iload_n 3, 1) := by decide +kernel
theorem dX1_write_46 : decode cX1_write 46 = .ok (.imul, 1) := by decide +kernel
theorem dX1_write_47 : decode cX1_write 47 = .ok (.invokestatic 24, 3) := by decide +kernel
theorem dX1_write_50 : decode cX1_write 50 = .ok (.ifCond .ne 5, 3) := by decide +kernel
theorem dX1_write_53 : decode cX1_write 53 = .ok (.iconst 0, 1) := by decide +kernel
theorem dX1_write_54 : decode cX1_write 54 = .ok (.ireturn, 1) := by decide +kernel
theorem dX1_write_55 : decode cX1_write 55 = .ok (.iinc 3 1, 3) := by decide +kernel
theorem dX1_write_58 : decode cX1_write 58 = .ok (.goto (-24), 3) := by decide +kernel
theorem dX1_write_61 : decode cX1_write 61 = .ok (.iconst 0, 1) := by decide +kernel
theorem dX1_write_62 : decode cX1_write 62 = .ok (.istore_n 3, 1) := by decide +kernel
theorem dX1_write_63 : decode cX1_write 63 = .ok (.iload_n 3, 1) := by decide +kernel
theorem dX1_write_64 : decode cX1_write 64 = .ok (.aload_n 0, 1) := by decide +kernel
theorem dX1_write_65 : decode cX1_write 65 = .ok (.getfield 9, 3) := by decide +kernel
theorem dX1_write_68 : decode cX1_write 68 = .ok (.if_icmp .ge 31, 3) := by decide +kernel
theorem dX1_write_71 : decode cX1_write 71 = .ok (.iload_n 3, 1) := by decide +kernel
theorem dX1_write_72 : decode cX1_write 72 = .ok (.aload_n 0, 1) := by decide +kernel
theorem dX1_write_73 : decode cX1_write 73 = .ok (.getfield 15, 3) := by decide +kernel
theorem dX1_write_76 : decode cX1_write 76 = .ok (.arraylength, 1) := by decide +kernel
theorem dX1_write_77 : decode cX1_write 77 = .ok (.if_icmp .ge 22, 3) := by decide +kernel
theorem dX1_write_80 : decode cX1_write 80 = .ok (.aload_n 0, 1) := by decide +kernel
theorem dX1_write_81 : decode cX1_write 81 = .ok (.getfield 15, 3) := by decide +kernel
theorem dX1_write_84 : decode cX1_write 84 = .ok (.iload_n 3, 1) := by decide +kernel
theorem dX1_write_85 : decode cX1_write 85 = .ok (.aload_n 0, 1) := by decide +kernel
theorem dX1_write_86 : decode cX1_write 86 = .ok (.aload_n 1, 1) := by decide +kernel
theorem dX1_write_87 : decode cX1_write 87 = .ok (.aload_n 2, 1) := by decide +kernel
theorem dX1_write_88 : decode cX1_write 88 = .ok (.iload_n 3, 1) := by decide +kernel
theorem dX1_write_89 : decode cX1_write 89 = .ok (.invokevirtual 28, 3) := by decide +kernel
theorem dX1_write_92 : decode cX1_write 92 = .ok (.iastore, 1) := by decide +kernel
theorem dX1_write_93 : decode cX1_write 93 = .ok (.iinc 3 1, 3) := by decide +kernel
theorem dX1_write_96 : decode cX1_write 96 = .ok (.goto (-33), 3) := by decide +kernel
theorem dX1_write_99 : decode cX1_write 99 = .ok (.iconst 1, 1) := by decide +kernel
theorem dX1_write_100 : decode cX1_write 100 = .ok (.ireturn, 1) := by decide +kernel
theorem dX1_isAsTold_0 : decode cX1_isAsTold 0 = .ok (.aload_n 1, 1) := by decide +kernel
theorem dX1_isAsTold_1 : decode cX1_isAsTold 1 = .ok (.iload_n 2, 1) := by decide +kernel
theorem dX1_isAsTold_2 : decode cX1_isAsTold 2 = .ok (.iconst 2, 1) := by decide +kernel
theorem dX1_isAsTold_3 : decode cX1_isAsTold 3 = .ok (.iadd, 1) := by decide +kernel
theorem dX1_isAsTold_4 : decode cX1_isAsTold 4 = .ok (.invokevirtual 32, 3) := by decide +kernel
theorem dX1_isAsTold_7 : decode cX1_isAsTold 7 = .ok (.istore_n 3, 1) := by decide +kernel
theorem dX1_isAsTold_8 : decode cX1_isAsTold 8 = .ok (.aload_n 0, 1) := by decide +kernel
theorem dX1_isAsTold_9 : decode cX1_isAsTold 9 = .ok (.aload_n 1, 1) := by decide +kernel
theorem dX1_isAsTold_10 : decode cX1_isAsTold 10 = .ok (.iload_n 2, 1) := by decide +kernel
theorem dX1_isAsTold_11 : decode cX1_isAsTold 11 = .ok (.invokevirtual 32, 3) := by decide +kernel
theorem dX1_isAsTold_14 : decode cX1_isAsTold 14 = .ok (.invokevirtual 36, 3) := by decide +kernel
theorem dX1_isAsTold_17 : decode cX1_isAsTold 17 = .ok (.ifCond .eq 31, 3) := by decide +kernel
theorem dX1_isAsTold_20 : decode cX1_isAsTold 20 = .ok (.aload_n 0, 1) := by decide +kernel
theorem dX1_isAsTold_21 : decode cX1_isAsTold 21 = .ok (.aload_n 1, 1) := by decide +kernel
theorem dX1_isAsTold_22 : decode cX1_isAsTold 22 = .ok (.iload_n 2, 1) := by decide +kernel
theorem dX1_isAsTold_23 : decode cX1_isAsTold 23 = .ok (.iconst 1, 1) := by decide +kernel
theorem dX1_isAsTold_24 : decode cX1_isAsTold 24 = .ok (.iadd, 1) := by decide +kernel
theorem dX1_isAsTold_25 : decode cX1_isAsTold 25 = .ok (.invokevirtual 32, 3) := by decide +kernel
theorem dX1_isAsTold_28 : decode cX1_isAsTold 28 = .ok (.invokevirtual 42, 3) := by decide +kernel
theorem dX1_isAsTold_31 : decode cX1_isAsTold 31 = .ok (.ifCond .eq 17, 3) := by decide +kernel
theorem dX1_isAsTold_34 : decode cX1_isAsTold 34 = .ok (.iload_n 3, 1) := by decide +kernel
theorem dX1_isAsTold_35 : decode cX1_isAsTold 35 = .ok (.ifCond .lt 13, 3) := by decide +kernel
theorem dX1_isAsTold_38 : decode cX1_isAsTold 38 = .ok (.iload_n 3, 1) := by decide +kernel
theorem dX1_isAsTold_39 : decode cX1_isAsTold 39 = .ok (.bipush 9, 2) := by decide +kernel
theorem dX1_isAsTold_41 : decode cX1_isAsTold 41 = .ok (.if_icmp .gt 7, 3) := by decide +kernel
theorem dX1_isAsTold_44 : decode cX1_isAsTold 44 = .ok (.iconst 1, 1) := by decide +kernel
theorem dX1_isAsTold_45 : decode cX1_isAsTold 45 = .ok (.goto 4, 3) := by decide +kernel
theorem dX1_isAsTold_48 : decode cX1_isAsTold 48 = .ok (.iconst 0, 1) := by decide +kernel
theorem dX1_isAsTold_49 : decode cX1_isAsTold 49 = .ok (.ireturn, 1) := by decide +kernel
theorem dX1_clashesOf_0 : decode cX1_clashesOf 0 = .ok (.iconst 0, 1) := by decide +kernel
theorem dX1_clashesOf_1 : decode cX1_clashesOf 1 = .ok (.istore 4, 2) := by decide +kernel
theorem dX1_clashesOf_3 : decode cX1_clashesOf 3 = .ok (.iconst 0, 1) := by decide +kernel
theorem dX1_clashesOf_4 : decode cX1_clashesOf 4 = .ok (.istore 5, 2) := by decide +kernel
theorem dX1_clashesOf_6 : decode cX1_clashesOf 6 = .ok (.iload 5, 2) := by decide +kernel
theorem dX1_clashesOf_8 : decode cX1_clashesOf 8 = .ok (.aload_n 0, 1) := by decide +kernel
theorem dX1_clashesOf_9 : decode cX1_clashesOf 9 = .ok (.getfield 9, 3) := by decide +kernel
theorem dX1_clashesOf_12 : decode cX1_clashesOf 12 = .ok (.if_icmp .ge 37, 3) := by decide +kernel
theorem dX1_clashesOf_15 : decode cX1_clashesOf 15 = .ok (.iload 4, 2) := by decide +kernel
theorem dX1_clashesOf_17 : decode cX1_clashesOf 17 = .ok (.aload_n 1, 1) := by decide +kernel
theorem dX1_clashesOf_18 : decode cX1_clashesOf 18 = .ok (.aload_n 2, 1) := by decide +kernel
theorem dX1_clashesOf_19 : decode cX1_clashesOf 19 = .ok (.iconst 3, 1) := by decide +kernel
theorem dX1_clashesOf_20 : decode cX1_clashesOf 20 = .ok (.iload_n 3, 1) := by decide +kernel
theorem dX1_clashesOf_21 : decode cX1_clashesOf 21 = .ok (.imul, 1) := by decide +kernel
theorem dX1_clashesOf_22 : decode cX1_clashesOf 22 = .ok (.iconst 3, 1) := by decide +kernel
theorem dX1_clashesOf_23 : decode cX1_clashesOf 23 = .ok (.iload 5, 2) := by decide +kernel
theorem dX1_clashesOf_25 : decode cX1_clashesOf 25 = .ok (.imul, 1) := by decide +kernel
theorem dX1_clashesOf_26 : decode cX1_clashesOf 26 = .ok (.invokestatic 45, 3) := by decide +kernel
theorem dX1_clashesOf_29 : decode cX1_clashesOf 29 = .ok (.ifCond .eq 10, 3) := by decide +kernel
theorem dX1_clashesOf_32 : decode cX1_clashesOf 32 = .ok (.iconst 1, 1) := by decide +kernel
theorem dX1_clashesOf_33 : decode cX1_clashesOf 33 = .ok (.iload 5, 2) := by decide +kernel
theorem dX1_clashesOf_35 : decode cX1_clashesOf 35 = .ok (.ishl, 1) := by decide +kernel
theorem dX1_clashesOf_36 : decode cX1_clashesOf 36 = .ok (.goto 4, 3) := by decide +kernel
theorem dX1_clashesOf_39 : decode cX1_clashesOf 39 = .ok (.iconst 0, 1) := by decide +kernel
theorem dX1_clashesOf_40 : decode cX1_clashesOf 40 = .ok (.ior, 1) := by decide +kernel
theorem dX1_clashesOf_41 : decode cX1_clashesOf 41 = .ok (.istore 4, 2) := by decide +kernel
theorem dX1_clashesOf_43 : decode cX1_clashesOf 43 = .ok (.iinc 5 1, 3) := by decide +kernel
theorem dX1_clashesOf_46 : decode cX1_clashesOf 46 = .ok (.goto (-40), 3) := by decide +kernel
theorem dX1_clashesOf_49 : decode cX1_clashesOf 49 = .ok (.iload 4, 2) := by decide +kernel
theorem dX1_clashesOf_51 : decode cX1_clashesOf 51 = .ok (.ireturn, 1) := by decide +kernel
theorem dX1_clash_0 : decode cX1_clash 0 = .ok (.aload_n 1, 1) := by decide +kernel
theorem dX1_clash_1 : decode cX1_clash 1 = .ok (.iload_n 2, 1) := by decide +kernel
theorem dX1_clash_2 : decode cX1_clash 2 = .ok (.iconst 2, 1) := by decide +kernel
theorem dX1_clash_3 : decode cX1_clash 3 = .ok (.iadd, 1) := by decide +kernel
theorem dX1_clash_4 : decode cX1_clash 4 = .ok (.invokevirtual 32, 3) := by decide +kernel
theorem dX1_clash_7 : decode cX1_clash 7 = .ok (.aload_n 1, 1) := by decide +kernel
theorem dX1_clash_8 : decode cX1_clash 8 = .ok (.iload_n 3, 1) := by decide +kernel
theorem dX1_clash_9 : decode cX1_clash 9 = .ok (.iconst 2, 1) := by decide +kernel
theorem dX1_clash_10 : decode cX1_clash 10 = .ok (.iadd, 1) := by decide +kernel
theorem dX1_clash_11 : decode cX1_clash 11 = .ok (.invokevirtual 32, 3) := by decide +kernel
theorem dX1_clash_14 : decode cX1_clash 14 = .ok (.if_icmp .eq 5, 3) := by decide +kernel
theorem dX1_clash_17 : decode cX1_clash 17 = .ok (.iconst 0, 1) := by decide +kernel
theorem dX1_clash_18 : decode cX1_clash 18 = .ok (.ireturn, 1) := by decide +kernel
theorem dX1_clash_19 : decode cX1_clash 19 = .ok (.aload_n 1, 1) := by decide +kernel
theorem dX1_clash_20 : decode cX1_clash 20 = .ok (.iload_n 2, 1) := by decide +kernel
theorem dX1_clash_21 : decode cX1_clash 21 = .ok (.invokevirtual 32, 3) := by decide +kernel
theorem dX1_clash_24 : decode cX1_clash 24 = .ok (.aload_n 1, 1) := by decide +kernel
theorem dX1_clash_25 : decode cX1_clash 25 = .ok (.iload_n 3, 1) := by decide +kernel
theorem dX1_clash_26 : decode cX1_clash 26 = .ok (.invokevirtual 32, 3) := by decide +kernel
theorem dX1_clash_29 : decode cX1_clash 29 = .ok (.if_icmp .ne 7, 3) := by decide +kernel
theorem dX1_clash_32 : decode cX1_clash 32 = .ok (.iconst 1, 1) := by decide +kernel
theorem dX1_clash_33 : decode cX1_clash 33 = .ok (.goto 4, 3) := by decide +kernel
theorem dX1_clash_36 : decode cX1_clash 36 = .ok (.iconst 0, 1) := by decide +kernel
theorem dX1_clash_37 : decode cX1_clash 37 = .ok (.istore 4, 2) := by decide +kernel
theorem dX1_clash_39 : decode cX1_clash 39 = .ok (.aload_n 1, 1) := by decide +kernel
theorem dX1_clash_40 : decode cX1_clash 40 = .ok (.iload_n 2, 1) := by decide +kernel
theorem dX1_clash_41 : decode cX1_clash 41 = .ok (.iconst 1, 1) := by decide +kernel
theorem dX1_clash_42 : decode cX1_clash 42 = .ok (.iadd, 1) := by decide +kernel
theorem dX1_clash_43 : decode cX1_clash 43 = .ok (.invokevirtual 32, 3) := by decide +kernel
theorem dX1_clash_46 : decode cX1_clash 46 = .ok (.aload_n 1, 1) := by decide +kernel
theorem dX1_clash_47 : decode cX1_clash 47 = .ok (.iload_n 3, 1) := by decide +kernel
theorem dX1_clash_48 : decode cX1_clash 48 = .ok (.iconst 1, 1) := by decide +kernel
theorem dX1_clash_49 : decode cX1_clash 49 = .ok (.iadd, 1) := by decide +kernel
theorem dX1_clash_50 : decode cX1_clash 50 = .ok (.invokevirtual 32, 3) := by decide +kernel
theorem dX1_clash_53 : decode cX1_clash 53 = .ok (.if_icmp .ne 7, 3) := by decide +kernel
theorem dX1_clash_56 : decode cX1_clash 56 = .ok (.iconst 1, 1) := by decide +kernel
theorem dX1_clash_57 : decode cX1_clash 57 = .ok (.goto 4, 3) := by decide +kernel
theorem dX1_clash_60 : decode cX1_clash 60 = .ok (.iconst 0, 1) := by decide +kernel
theorem dX1_clash_61 : decode cX1_clash 61 = .ok (.istore 5, 2) := by decide +kernel
theorem dX1_clash_63 : decode cX1_clash 63 = .ok (.iload 4, 2) := by decide +kernel
theorem dX1_clash_65 : decode cX1_clash 65 = .ok (.ifCond .eq 24, 3) := by decide +kernel
theorem dX1_clash_68 : decode cX1_clash 68 = .ok (.aload_n 0, 1) := by decide +kernel
theorem dX1_clash_69 : decode cX1_clash 69 = .ok (.aload_n 1, 1) := by decide +kernel
theorem dX1_clash_70 : decode cX1_clash 70 = .ok (.iload_n 2, 1) := by decide +kernel
theorem dX1_clash_71 : decode cX1_clash 71 = .ok (.iconst 1, 1) := by decide +kernel
theorem dX1_clash_72 : decode cX1_clash 72 = .ok (.iadd, 1) := by decide +kernel
theorem dX1_clash_73 : decode cX1_clash 73 = .ok (.invokevirtual 32, 3) := by decide +kernel
theorem dX1_clash_76 : decode cX1_clash 76 = .ok (.aload_n 1, 1) := by decide +kernel
theorem dX1_clash_77 : decode cX1_clash 77 = .ok (.iload_n 3, 1) := by decide +kernel
theorem dX1_clash_78 : decode cX1_clash 78 = .ok (.iconst 1, 1) := by decide +kernel
theorem dX1_clash_79 : decode cX1_clash 79 = .ok (.iadd, 1) := by decide +kernel
theorem dX1_clash_80 : decode cX1_clash 80 = .ok (.invokevirtual 32, 3) := by decide +kernel
theorem dX1_clash_83 : decode cX1_clash 83 = .ok (.invokevirtual 49, 3) := by decide +kernel
theorem dX1_clash_86 : decode cX1_clash 86 = .ok (.goto 5, 3) := by decide +kernel
theorem dX1_clash_89 : decode cX1_clash 89 = .ok (.iload 5, 2) := by decide +kernel
theorem dX1_clash_91 : decode cX1_clash 91 = .ok (.ireturn, 1) := by decide +kernel
theorem dX1_fewestStruck_0 : decode cX1_fewestStruck 0 = .ok (.iconst 1, 1) := by decide +kernel
theorem dX1_fewestStruck_1 : decode cX1_fewestStruck 1 = .ok (.aload_n 0, 1) := by decide +kernel
theorem dX1_fewestStruck_2 : decode cX1_fewestStruck 2 = .ok (.getfield 9, 3) := by decide +kernel
theorem dX1_fewestStruck_5 : decode cX1_fewestStruck 5 = .ok (.ishl, 1) := by decide +kernel
theorem dX1_fewestStruck_6 : decode cX1_fewestStruck 6 = .ok (.iconst 1, 1) := by decide +kernel
theorem dX1_fewestStruck_7 : decode cX1_fewestStruck 7 = .ok (.isub, 1) := by decide +kernel
theorem dX1_fewestStruck_8 : decode cX1_fewestStruck 8 = .ok (.istore_n 1, 1) := by decide +kernel
theorem dX1_fewestStruck_9 : decode cX1_fewestStruck 9 = .ok (.iconst 0, 1) := by decide +kernel
theorem dX1_fewestStruck_10 : decode cX1_fewestStruck 10 = .ok (.istore_n 2, 1) := by decide +kernel
theorem dX1_fewestStruck_11 : decode cX1_fewestStruck 11 = .ok (.iload_n 2, 1) := by decide +kernel
theorem dX1_fewestStruck_12 : decode cX1_fewestStruck 12 = .ok (.iconst 1, 1) := by decide +kernel
theorem dX1_fewestStruck_13 : decode cX1_fewestStruck 13 = .ok (.aload_n 0, 1) := by decide +kernel
theorem dX1_fewestStruck_14 : decode cX1_fewestStruck 14 = .ok (.getfield 9, 3) := by decide +kernel
theorem dX1_fewestStruck_17 : decode cX1_fewestStruck 17 = .ok (.ishl, 1) := by decide +kernel
theorem dX1_fewestStruck_18 : decode cX1_fewestStruck 18 = .ok (.if_icmp .ge 30, 3) := by decide +kernel
theorem dX1_fewestStruck_21 : decode cX1_fewestStruck 21 = .ok (.iload_n 2, 1) := by decide +kernel
theorem dX1_fewestStruck_22 : decode cX1_fewestStruck 22 = .ok (.invokestatic 53, 3) := by decide +kernel
theorem dX1_fewestStruck_25 : decode cX1_fewestStruck 25 = .ok (.iload_n 1, 1) := by decide +kernel
theorem dX1_fewestStruck_26 : decode cX1_fewestStruck 26 = .ok (.invokestatic 53, 3) := by decide +kernel
theorem dX1_fewestStruck_29 : decode cX1_fewestStruck 29 = .ok (.if_icmp .ge 13, 3) := by decide +kernel
theorem dX1_fewestStruck_32 : decode cX1_fewestStruck 32 = .ok (.aload_n 0, 1) := by decide +kernel
theorem dX1_fewestStruck_33 : decode cX1_fewestStruck 33 = .ok (.iload_n 2, 1) := by decide +kernel
theorem dX1_fewestStruck_34 : decode cX1_fewestStruck 34 = .ok (.invokevirtual 58, 3) := by decide +kernel
theorem dX1_fewestStruck_37 : decode cX1_fewestStruck 37 = .ok (.ifCond .eq 5, 3) := by decide +kernel
theorem dX1_fewestStruck_40 : decode cX1_fewestStruck 40 = .ok (.iload_n 2, 1) := by decide +kernel
theorem dX1_fewestStruck_41 : decode cX1_fewestStruck 41 = .ok (.istore_n 1, 1) := by decide +kernel
theorem dX1_fewestStruck_42 : decode cX1_fewestStruck 42 = .ok (.iinc 2 1, 3) := by decide +kernel
theorem dX1_fewestStruck_45 : decode cX1_fewestStruck 45 = .ok (.goto (-34), 3) := by decide +kernel
theorem dX1_fewestStruck_48 : decode cX1_fewestStruck 48 = .ok (.iload_n 1, 1) := by decide +kernel
theorem dX1_fewestStruck_49 : decode cX1_fewestStruck 49 = .ok (.ireturn, 1) := by decide +kernel
theorem dX1_canStandWithout_0 : decode cX1_canStandWithout 0 = .ok (.iconst 0, 1) := by decide +kernel
theorem dX1_canStandWithout_1 : decode cX1_canStandWithout 1 = .ok (.istore_n 2, 1) := by decide +kernel
theorem dX1_canStandWithout_2 : decode cX1_canStandWithout 2 = .ok (.iload_n 2, 1) := by decide +kernel
theorem dX1_canStandWithout_3 : decode cX1_canStandWithout 3 = .ok (.aload_n 0, 1) := by decide +kernel
theorem dX1_canStandWithout_4 : decode cX1_canStandWithout 4 = .ok (.getfield 9, 3) := by decide +kernel
theorem dX1_canStandWithout_7 : decode cX1_canStandWithout 7 = .ok (.if_icmp .ge 41, 3) := by decide +kernel
theorem dX1_canStandWithout_10 : decode cX1_canStandWithout 10 = .ok (.iload_n 2, 1) := by decide +kernel
theorem dX1_canStandWithout_11 : decode cX1_canStandWithout 11 = .ok (.aload_n 0, 1) := by decide +kernel
theorem dX1_canStandWithout_12 : decode cX1_canStandWithout 12 = .ok (.getfield 15, 3) := by decide +kernel
theorem dX1_canStandWithout_15 : decode cX1_canStandWithout 15 = .ok (.arraylength, 1) := by decide +kernel
theorem dX1_canStandWithout_16 : decode cX1_canStandWithout 16 = .ok (.if_icmp .ge 32, 3) := by decide +kernel
theorem dX1_canStandWithout_19 : decode cX1_canStandWithout 19 = .ok (.iload_n 1, 1) := by decide +kernel
theorem dX1_canStandWithout_20 : decode cX1_canStandWithout 20 = .ok (.iload_n 2, 1) := by decide +kernel
theorem dX1_canStandWithout_21 : decode cX1_canStandWithout 21 = .ok (.ishr, 1) := by decide +kernel
theorem dX1_canStandWithout_22 : decode cX1_canStandWithout 22 = .ok (.iconst 1, 1) := by decide +kernel
theorem dX1_canStandWithout_23 : decode cX1_canStandWithout 23 = .ok (.iand, 1) := by decide +kernel
theorem dX1_canStandWithout_24 : decode cX1_canStandWithout 24 = .ok (.ifCond .ne 18, 3) := by decide +kernel
theorem dX1_canStandWithout_27 : decode cX1_canStandWithout 27 = .ok (.aload_n 0, 1) := by decide +kernel
theorem dX1_canStandWithout_28 : decode cX1_canStandWithout 28 = .ok (.getfield 15, 3) := by decide +kernel
theorem dX1_canStandWithout_31 : decode cX1_canStandWithout 31 = .ok (.iload_n 2, 1) := by decide +kernel
theorem dX1_canStandWithout_32 : decode cX1_canStandWithout 32 = .ok (.iaload, 1) := by decide +kernel
theorem dX1_canStandWithout_33 : decode cX1_canStandWithout 33 = .ok (.iload_n 1, 1) := by decide +kernel
theorem dX1_canStandWithout_34 : decode cX1_canStandWithout 34 = .ok (.iconst (-1), 1) := by decide +kernel
theorem dX1_canStandWithout_35 : decode cX1_canStandWithout 35 = .ok (.ixor, 1) := by decide +kernel
theorem dX1_canStandWithout_36 : decode cX1_canStandWithout 36 = .ok (.iand, 1) := by decide +kernel
theorem dX1_canStandWithout_37 : decode cX1_canStandWithout 37 = .ok (.ifCond .eq 5, 3) := by decide +kernel
theorem dX1_canStandWithout_40 : decode cX1_canStandWithout 40 = .ok (.iconst 0, 1) := by decide +kernel
theorem dX1_canStandWithout_41 : decode cX1_canStandWithout 41 = .ok (.ireturn, 1) := by decide +kernel
theorem dX1_canStandWithout_42 : decode cX1_canStandWithout 42 = .ok (.iinc 2 1, 3) := by decide +kernel
theorem dX1_canStandWithout_45 : decode cX1_canStandWithout 45 = .ok (.goto (-43), 3) := by decide +kernel
theorem dX1_canStandWithout_48 : decode cX1_canStandWithout 48 = .ok (.iconst 1, 1) := by decide +kernel
theorem dX1_canStandWithout_49 : decode cX1_canStandWithout 49 = .ok (.ireturn, 1) := by decide +kernel
theorem dX2_init_0 : decode cX2_init 0 = .ok (.aload_n 0, 1) := by decide +kernel
theorem dX2_init_1 : decode cX2_init 1 = .ok (.invokespecial 3, 3) := by decide +kernel
theorem dX2_init_4 : decode cX2_init 4 = .ok (.aload_n 0, 1) := by decide +kernel
theorem dX2_init_5 : decode cX2_init 5 = .ok (.iconst 0, 1) := by decide +kernel
theorem dX2_init_6 : decode cX2_init 6 = .ok (.putfield 9, 3) := by decide +kernel
theorem dX2_init_9 : decode cX2_init 9 = .ok (.aload_n 0, 1) := by decide +kernel
theorem dX2_init_10 : decode cX2_init 10 = .ok (.iconst 0, 1) := by decide +kernel
theorem dX2_init_11 : decode cX2_init 11 = .ok (.putfield 15, 3) := by decide +kernel
theorem dX2_init_14 : decode cX2_init 14 = .ok (.aload_n 0, 1) := by decide +kernel
theorem dX2_init_15 : decode cX2_init 15 = .ok (.iconst 0, 1) := by decide +kernel
theorem dX2_init_16 : decode cX2_init 16 = .ok (.putfield 18, 3) := by decide +kernel
theorem dX2_init_19 : decode cX2_init 19 = .ok (.aload_n 0, 1) := by decide +kernel
theorem dX2_init_20 : decode cX2_init 20 = .ok (.iconst 0, 1) := by decide +kernel
theorem dX2_init_21 : decode cX2_init 21 = .ok (.putfield 22, 3) := by decide +kernel
theorem dX2_init_24 : decode cX2_init 24 = .ok (.aload_n 0, 1) := by decide +kernel
theorem dX2_init_25 : decode cX2_init 25 = .ok (.bipush 6, 2) := by decide +kernel
theorem dX2_init_27 : decode cX2_init 27 = .ok (.newarray .int, 2) := by decide +kernel
theorem dX2_init_29 : decode cX2_init 29 = .ok (.putfield 25, 3) := by decide +kernel
theorem dX2_init_32 : decode cX2_init 32 = .ok (.aload_n 0, 1) := by decide +kernel
theorem dX2_init_33 : decode cX2_init 33 = .ok (.bipush 6, 2) := by decide +kernel
theorem dX2_init_35 : decode cX2_init 35 = .ok (.newarray .int, 2) := by decide +kernel
theorem dX2_init_37 : decode cX2_init 37 = .ok (.putfield 29, 3) := by decide +kernel
theorem dX2_init_40 : decode cX2_init 40 = .ok (.aload_n 0, 1) := by decide +kernel
theorem dX2_init_41 : decode cX2_init 41 = .ok (.bipush 36, 2) := by decide +kernel
theorem dX2_init_43 : decode cX2_init 43 = .ok (.newarray .int, 2) := by decide +kernel
theorem dX2_init_45 : decode cX2_init 45 = .ok (.putfield 32, 3) := by decide +kernel
theorem dX2_init_48 : decode cX2_init 48 = .ok (.aload_n 0, 1) := by decide +kernel
theorem dX2_init_49 : decode cX2_init 49 = .ok (.iconst 3, 1) := by decide +kernel
theorem dX2_init_50 : decode cX2_init 50 = .ok (.newarray .int, 2) := by decide +kernel
theorem dX2_init_52 : decode cX2_init 52 = .ok (.putfield 35, 3) := by decide +kernel
theorem dX2_init_55 : decode cX2_init 55 = .ok (.aload_n 0, 1) := by decide +kernel
theorem dX2_init_56 : decode cX2_init 56 = .ok (.iconst 3, 1) := by decide +kernel
theorem dX2_init_57 : decode cX2_init 57 = .ok (.newarray .int, 2) := by decide +kernel
theorem dX2_init_59 : decode cX2_init 59 = .ok (.putfield 38, 3) := by decide +kernel
theorem dX2_init_62 : decode cX2_init 62 = .ok (.aload_n 0, 1) := by decide +kernel
theorem dX2_init_63 : decode cX2_init 63 = .ok (.bipush 18, 2) := by decide +kernel
theorem dX2_init_65 : decode cX2_init 65 = .ok (.newarray .int, 2) := by decide +kernel
theorem dX2_init_67 : decode cX2_init 67 = .ok (.putfield 41, 3) := by decide +kernel
theorem dX2_init_70 : decode cX2_init 70 = .ok (.return_, 1) := by decide +kernel
theorem dX2_copyFrom_0 : decode cX2_copyFrom 0 = .ok (.aload_n 0, 1) := by decide +kernel
theorem dX2_copyFrom_1 : decode cX2_copyFrom 1 = .ok (.aload_n 1, 1) := by decide +kernel
theorem dX2_copyFrom_2 : decode cX2_copyFrom 2 = .ok (.getfield 9, 3) := by decide +kernel
theorem dX2_copyFrom_5 : decode cX2_copyFrom 5 = .ok (.putfield 9, 3) := by decide +kernel
theorem dX2_copyFrom_8 : decode cX2_copyFrom 8 = .ok (.aload_n 0, 1) := by decide +kernel
theorem dX2_copyFrom_9 : decode cX2_copyFrom 9 = .ok (.aload_n 1, 1) := by decide +kernel
theorem dX2_copyFrom_10 : decode cX2_copyFrom 10 = .ok (.getfield 15, 3) := by decide +kernel
theorem dX2_copyFrom_13 : decode cX2_copyFrom 13 = .ok (.putfield 15, 3) := by decide +kernel
theorem dX2_copyFrom_16 : decode cX2_copyFrom 16 = .ok (.aload_n 0, 1) := by decide +kernel
theorem dX2_copyFrom_17 : decode cX2_copyFrom 17 = .ok (.aload_n 1, 1) := by decide +kernel
theorem dX2_copyFrom_18 : decode cX2_copyFrom 18 = .ok (.getfield 18, 3) := by decide +kernel
theorem dX2_copyFrom_21 : decode cX2_copyFrom 21 = .ok (.putfield 18, 3) := by decide +kernel
theorem dX2_copyFrom_24 : decode cX2_copyFrom 24 = .ok (.aload_n 0, 1) := by decide +kernel
theorem dX2_copyFrom_25 : decode cX2_copyFrom 25 = .ok (.aload_n 1, 1) := by decide +kernel
theorem dX2_copyFrom_26 : decode cX2_copyFrom 26 = .ok (.getfield 22, 3) := by decide +kernel
theorem dX2_copyFrom_29 : decode cX2_copyFrom 29 = .ok (.putfield 22, 3) := by decide +kernel
theorem dX2_copyFrom_32 : decode cX2_copyFrom 32 = .ok (.aload_n 1, 1) := by decide +kernel
theorem dX2_copyFrom_33 : decode cX2_copyFrom 33 = .ok (.getfield 25, 3) := by decide +kernel
theorem dX2_copyFrom_36 : decode cX2_copyFrom 36 = .ok (.iconst 0, 1) := by decide +kernel
theorem dX2_copyFrom_37 : decode cX2_copyFrom 37 = .ok (.aload_n 0, 1) := by decide +kernel
theorem dX2_copyFrom_38 : decode cX2_copyFrom 38 = .ok (.getfield 25, 3) := by decide +kernel
theorem dX2_copyFrom_41 : decode cX2_copyFrom 41 = .ok (.iconst 0, 1) := by decide +kernel
theorem dX2_copyFrom_42 : decode cX2_copyFrom 42 = .ok (.aload_n 0, 1) := by decide +kernel
theorem dX2_copyFrom_43 : decode cX2_copyFrom 43 = .ok (.getfield 25, 3) := by decide +kernel
theorem dX2_copyFrom_46 : decode cX2_copyFrom 46 = .ok (.arraylength, 1) := by decide +kernel
theorem dX2_copyFrom_47 : decode cX2_copyFrom 47 = .ok (.invokestatic 44, 3) := by decide +kernel
theorem dX2_copyFrom_50 : decode cX2_copyFrom 50 = .ok (.aload_n 1, 1) := by decide +kernel
theorem dX2_copyFrom_51 : decode cX2_copyFrom 51 = .ok (.getfield 29, 3) := by decide +kernel
theorem dX2_copyFrom_54 : decode cX2_copyFrom 54 = .ok (.iconst 0, 1) := by decide +kernel
theorem dX2_copyFrom_55 : decode cX2_copyFrom 55 = .ok (.aload_n 0, 1) := by decide +kernel
theorem dX2_copyFrom_56 : decode cX2_copyFrom 56 = .ok (.getfield 29, 3) := by decide +kernel
theorem dX2_copyFrom_59 : decode cX2_copyFrom 59 = .ok (.iconst 0, 1) := by decide +kernel
theorem dX2_copyFrom_60 : decode cX2_copyFrom 60 = .ok (.aload_n 0, 1) := by decide +kernel
theorem dX2_copyFrom_61 : decode cX2_copyFrom 61 = .ok (.getfield 29, 3) := by decide +kernel
theorem dX2_copyFrom_64 : decode cX2_copyFrom 64 = .ok (.arraylength, 1) := by decide +kernel
theorem dX2_copyFrom_65 : decode cX2_copyFrom 65 = .ok (.invokestatic 44, 3) := by decide +kernel
theorem dX2_copyFrom_68 : decode cX2_copyFrom 68 = .ok (.aload_n 1, 1) := by decide +kernel
theorem dX2_copyFrom_69 : decode cX2_copyFrom 69 = .ok (.getfield 32, 3) := by decide +kernel
theorem dX2_copyFrom_72 : decode cX2_copyFrom 72 = .ok (.iconst 0, 1) := by decide +kernel
theorem dX2_copyFrom_73 : decode cX2_copyFrom 73 = .ok (.aload_n 0, 1) := by decide +kernel
theorem dX2_copyFrom_74 : decode cX2_copyFrom 74 = .ok (.getfield 32, 3) := by decide +kernel
theorem dX2_copyFrom_77 : decode cX2_copyFrom 77 = .ok (.iconst 0, 1) := by decide +kernel
theorem dX2_copyFrom_78 : decode cX2_copyFrom 78 = .ok (.aload_n 0, 1) := by decide +kernel
theorem dX2_copyFrom_79 : decode cX2_copyFrom 79 = .ok (.getfield 32, 3) := by decide +kernel
theorem dX2_copyFrom_82 : decode cX2_copyFrom 82 = .ok (.arraylength, 1) := by decide +kernel
theorem dX2_copyFrom_83 : decode cX2_copyFrom 83 = .ok (.invokestatic 44, 3) := by decide +kernel
theorem dX2_copyFrom_86 : decode cX2_copyFrom 86 = .ok (.aload_n 1, 1) := by decide +kernel
theorem dX2_copyFrom_87 : decode cX2_copyFrom 87 = .ok (.getfield 35, 3) := by decide +kernel
theorem dX2_copyFrom_90 : decode cX2_copyFrom 90 = .ok (.iconst 0, 1) := by decide +kernel
theorem dX2_copyFrom_91 : decode cX2_copyFrom 91 = .ok (.aload_n 0, 1) := by decide +kernel
theorem dX2_copyFrom_92 : decode cX2_copyFrom 92 = .ok (.getfield 35, 3) := by decide +kernel
theorem dX2_copyFrom_95 : decode cX2_copyFrom 95 = .ok (.iconst 0, 1) := by decide +kernel
theorem dX2_copyFrom_96 : decode cX2_copyFrom 96 = .ok (.aload_n 0, 1) := by decide +kernel
theorem dX2_copyFrom_97 : decode cX2_copyFrom 97 = .ok (.getfield 35, 3) := by decide +kernel
theorem dX2_copyFrom_100 : decode cX2_copyFrom 100 = .ok (.arraylength, 1) := by decide +kernel
theorem dX2_copyFrom_101 : decode cX2_copyFrom 101 = .ok (.invokestatic 44, 3) := by decide +kernel
theorem dX2_copyFrom_104 : decode cX2_copyFrom 104 = .ok (.aload_n 1, 1) := by decide +kernel
theorem dX2_copyFrom_105 : decode cX2_copyFrom 105 = .ok (.getfield 38, 3) := by decide +kernel
theorem dX2_copyFrom_108 : decode cX2_copyFrom 108 = .ok (.iconst 0, 1) := by decide +kernel
theorem dX2_copyFrom_109 : decode cX2_copyFrom 109 = .ok (.aload_n 0, 1) := by decide +kernel
theorem dX2_copyFrom_110 : decode cX2_copyFrom 110 = .ok (.getfield 38, 3) := by decide +kernel
theorem dX2_copyFrom_113 : decode cX2_copyFrom 113 = .ok (.iconst 0, 1) := by decide +kernel
theorem dX2_copyFrom_114 : decode cX2_copyFrom 114 = .ok (.aload_n 0, 1) := by decide +kernel
theorem dX2_copyFrom_115 : decode cX2_copyFrom 115 = .ok (.getfield 38, 3) := by decide +kernel
theorem dX2_copyFrom_118 : decode cX2_copyFrom 118 = .ok (.arraylength, 1) := by decide +kernel
theorem dX2_copyFrom_119 : decode cX2_copyFrom 119 = .ok (.invokestatic 44, 3) := by decide +kernel
theorem dX2_copyFrom_122 : decode cX2_copyFrom 122 = .ok (.aload_n 1, 1) := by decide +kernel
theorem dX2_copyFrom_123 : decode cX2_copyFrom 123 = .ok (.getfield 41, 3) := by decide +kernel
theorem dX2_copyFrom_126 : decode cX2_copyFrom 126 = .ok (.iconst 0, 1) := by decide +kernel
theorem dX2_copyFrom_127 : decode cX2_copyFrom 127 = .ok (.aload_n 0, 1) := by decide +kernel
theorem dX2_copyFrom_128 : decode cX2_copyFrom 128 = .ok (.getfield 41, 3) := by decide +kernel
theorem dX2_copyFrom_131 : decode cX2_copyFrom 131 = .ok (.iconst 0, 1) := by decide +kernel
theorem dX2_copyFrom_132 : decode cX2_copyFrom 132 = .ok (.aload_n 0, 1) := by decide +kernel
theorem dX2_copyFrom_133 : decode cX2_copyFrom 133 = .ok (.getfield 41, 3) := by decide +kernel
theorem dX2_copyFrom_136 : decode cX2_copyFrom 136 = .ok (.arraylength, 1) := by decide +kernel
theorem dX2_copyFrom_137 : decode cX2_copyFrom 137 = .ok (.invokestatic 44, 3) := by decide +kernel
theorem dX2_copyFrom_140 : decode cX2_copyFrom 140 = .ok (.return_, 1) := by decide +kernel
theorem dX2_isField_0 : decode cX2_isField 0 = .ok (.iload_n 1, 1) := by decide +kernel
theorem dX2_isField_1 : decode cX2_isField 1 = .ok (.ifCond .lt 21, 3) := by decide +kernel
theorem dX2_isField_4 : decode cX2_isField 4 = .ok (.iload_n 1, 1) := by decide +kernel
theorem dX2_isField_5 : decode cX2_isField 5 = .ok (.aload_n 0, 1) := by decide +kernel
theorem dX2_isField_6 : decode cX2_isField 6 = .ok (.getfield 9, 3) := by decide +kernel
theorem dX2_isField_9 : decode cX2_isField 9 = .ok (.if_icmp .ge 13, 3) := by decide +kernel
theorem dX2_isField_12 : decode cX2_isField 12 = .ok (.iload_n 1, 1) := by decide +kernel
theorem dX2_isField_13 : decode cX2_isField 13 = .ok (.bipush 6, 2) := by decide +kernel
theorem dX2_isField_15 : decode cX2_isField 15 = .ok (.if_icmp .ge 7, 3) := by decide +kernel
theorem dX2_isField_18 : decode cX2_isField 18 = .ok (.iconst 1, 1) := by decide +kernel
theorem dX2_isField_19 : decode cX2_isField 19 = .ok (.goto 4, 3) := by decide +kernel
theorem dX2_isField_22 : decode cX2_isField 22 = .ok (.iconst 0, 1) := by decide +kernel
theorem dX2_isField_23 : decode cX2_isField 23 = .ok (.ireturn, 1) := by decide +kernel
theorem dX2_isPerson_0 : decode cX2_isPerson 0 = .ok (.iload_n 1, 1) := by decide +kernel
theorem dX2_isPerson_1 : decode cX2_isPerson 1 = .ok (.ifCond .lt 20, 3) := by decide +kernel
theorem dX2_isPerson_4 : decode cX2_isPerson 4 = .ok (.iload_n 1, 1) := by decide +kernel
theorem dX2_isPerson_5 : decode cX2_isPerson 5 = .ok (.aload_n 0, 1) := by decide +kernel
theorem dX2_isPerson_6 : decode cX2_isPerson 6 = .ok (.getfield 15, 3) := by decide +kernel
theorem dX2_isPerson_9 : decode cX2_isPerson 9 = .ok (.if_icmp .ge 12, 3) := by decide +kernel
theorem dX2_isPerson_12 : decode cX2_isPerson 12 = .ok (.iload_n 1, 1) := by decide +kernel
theorem dX2_isPerson_13 : decode cX2_isPerson 13 = .ok (.iconst 3, 1) := by decide +kernel
theorem dX2_isPerson_14 : decode cX2_isPerson 14 = .ok (.if_icmp .ge 7, 3) := by decide +kernel
theorem dX2_isPerson_17 : decode cX2_isPerson 17 = .ok (.iconst 1, 1) := by decide +kernel
theorem dX2_isPerson_18 : decode cX2_isPerson 18 = .ok (.goto 4, 3) := by decide +kernel
theorem dX2_isPerson_21 : decode cX2_isPerson 21 = .ok (.iconst 0, 1) := by decide +kernel
theorem dX2_isPerson_22 : decode cX2_isPerson 22 = .ok (.ireturn, 1) := by decide +kernel
theorem dX2_isOwner_0 : decode cX2_isOwner 0 = .ok (.iload_n 1, 1) := by decide +kernel
theorem dX2_isOwner_1 : decode cX2_isOwner 1 = .ok (.bipush 9, 2) := by decide +kernel
theorem dX2_isOwner_3 : decode cX2_isOwner 3 = .ok (.if_icmp .eq 11, 3) := by decide +kernel
theorem dX2_isOwner_6 : decode cX2_isOwner 6 = .ok (.aload_n 0, 1) := by decide +kernel
theorem dX2_isOwner_7 : decode cX2_isOwner 7 = .ok (.iload_n 1, 1) := by decide +kernel
theorem dX2_isOwner_8 : decode cX2_isOwner 8 = .ok (.invokevirtual 50, 3) := by decide +kernel
theorem dX2_isOwner_11 : decode cX2_isOwner 11 = .ok (.ifCond .eq 7, 3) := by decide +kernel
theorem dX2_isOwner_14 : decode cX2_isOwner 14 = .ok (.iconst 1, 1) := by decide +kernel
theorem dX2_isOwner_15 : decode cX2_isOwner 15 = .ok (.goto 4, 3) := by decide +kernel
theorem dX2_isOwner_18 : decode cX2_isOwner 18 = .ok (.iconst 0, 1) := by decide +kernel
theorem dX2_isOwner_19 : decode cX2_isOwner 19 = .ok (.ireturn, 1) := by decide +kernel
theorem dX2_areTwo_0 : decode cX2_areTwo 0 = .ok (.aload_n 0, 1) := by decide +kernel
theorem dX2_areTwo_1 : decode cX2_areTwo 1 = .ok (.iload_n 1, 1) := by decide +kernel
theorem dX2_areTwo_2 : decode cX2_areTwo 2 = .ok (.invokevirtual 54, 3) := by decide +kernel
theorem dX2_areTwo_5 : decode cX2_areTwo 5 = .ok (.ifCond .eq 20, 3) := by decide +kernel
theorem dX2_areTwo_8 : decode cX2_areTwo 8 = .ok (.aload_n 0, 1) := by decide +kernel
theorem dX2_areTwo_9 : decode cX2_areTwo 9 = .ok (.iload_n 2, 1) := by decide +kernel
theorem dX2_areTwo_10 : decode cX2_areTwo 10 = .ok (.invokevirtual 54, 3) := by decide +kernel
theorem dX2_areTwo_13 : decode cX2_areTwo 13 = .ok (.ifCond .eq 12, 3) := by decide +kernel
theorem dX2_areTwo_16 : decode cX2_areTwo 16 = .ok (.iload_n 1, 1) := by decide +kernel
theorem dX2_areTwo_17 : decode cX2_areTwo 17 = .ok (.iload_n 2, 1) := by decide +kernel
theorem dX2_areTwo_18 : decode cX2_areTwo 18 = .ok (.if_icmp .eq 7, 3) := by decide +kernel
theorem dX2_areTwo_21 : decode cX2_areTwo 21 = .ok (.iconst 1, 1) := by decide +kernel
theorem dX2_areTwo_22 : decode cX2_areTwo 22 = .ok (.goto 4, 3) := by decide +kernel
theorem dX2_areTwo_25 : decode cX2_areTwo 25 = .ok (.iconst 0, 1) := by decide +kernel
theorem dX2_areTwo_26 : decode cX2_areTwo 26 = .ok (.ireturn, 1) := by decide +kernel
theorem dX2_acresOf_0 : decode cX2_acresOf 0 = .ok (.aload_n 0, 1) := by decide +kernel
theorem dX2_acresOf_1 : decode cX2_acresOf 1 = .ok (.iload_n 1, 1) := by decide +kernel
theorem dX2_acresOf_2 : decode cX2_acresOf 2 = .ok (.invokevirtual 54, 3) := by decide +kernel
theorem dX2_acresOf_5 : decode cX2_acresOf 5 = .ok (.ifCond .eq 12, 3) := by decide +kernel
theorem dX2_acresOf_8 : decode cX2_acresOf 8 = .ok (.aload_n 0, 1) := by decide +kernel
theorem dX2_acresOf_9 : decode cX2_acresOf 9 = .ok (.getfield 25, 3) := by decide +kernel
theorem dX2_acresOf_12 : decode cX2_acresOf 12 = .ok (.iload_n 1, 1) := by decide +kernel
theorem dX2_acresOf_13 : decode cX2_acresOf 13 = .ok (.iaload, 1) := by decide +kernel
theorem dX2_acresOf_14 : decode cX2_acresOf 14 = .ok (.goto 4, 3) := by decide +kernel
theorem dX2_acresOf_17 : decode cX2_acresOf 17 = .ok (.iconst 0, 1) := by decide +kernel
theorem dX2_acresOf_18 : decode cX2_acresOf 18 = .ok (.ireturn, 1) := by decide +kernel
theorem dX2_ownerOf_0 : decode cX2_ownerOf 0 = .ok (.aload_n 0, 1) := by decide +kernel
theorem dX2_ownerOf_1 : decode cX2_ownerOf 1 = .ok (.iload_n 1, 1) := by decide +kernel
theorem dX2_ownerOf_2 : decode cX2_ownerOf 2 = .ok (.invokevirtual 54, 3) := by decide +kernel
theorem dX2_ownerOf_5 : decode cX2_ownerOf 5 = .ok (.ifCond .eq 12, 3) := by decide +kernel
theorem dX2_ownerOf_8 : decode cX2_ownerOf 8 = .ok (.aload_n 0, 1) := by decide +kernel
theorem dX2_ownerOf_9 : decode cX2_ownerOf 9 = .ok (.getfield 29, 3) := by decide +kernel
theorem dX2_ownerOf_12 : decode cX2_ownerOf 12 = .ok (.iload_n 1, 1) := by decide +kernel
theorem dX2_ownerOf_13 : decode cX2_ownerOf 13 = .ok (.iaload, 1) := by decide +kernel
theorem dX2_ownerOf_14 : decode cX2_ownerOf 14 = .ok (.goto 5, 3) := by decide +kernel
theorem dX2_ownerOf_17 : decode cX2_ownerOf 17 = .ok (.bipush 9, 2) := by decide +kernel
theorem dX2_ownerOf_19 : decode cX2_ownerOf 19 = .ok (.ireturn, 1) := by decide +kernel
theorem dX2_touchOf_0 : decode cX2_touchOf 0 = .ok (.aload_n 0, 1) := by decide +kernel
theorem dX2_touchOf_1 : decode cX2_touchOf 1 = .ok (.iload_n 1, 1) := by decide +kernel
theorem dX2_touchOf_2 : decode cX2_touchOf 2 = .ok (.invokevirtual 54, 3) := by decide +kernel
theorem dX2_touchOf_5 : decode cX2_touchOf 5 = .ok (.ifCond .eq 25, 3) := by decide +kernel
theorem dX2_touchOf_8 : decode cX2_touchOf 8 = .ok (.aload_n 0, 1) := by decide +kernel
theorem dX2_touchOf_9 : decode cX2_touchOf 9 = .ok (.iload_n 2, 1) := by decide +kernel
theorem dX2_touchOf_10 : decode cX2_touchOf 10 = .ok (.invokevirtual 54, 3) := by decide +kernel
theorem dX2_touchOf_13 : decode cX2_touchOf 13 = .ok (.ifCond .eq 17, 3) := by decide +kernel
theorem dX2_touchOf_16 : decode cX2_touchOf 16 = .ok (.aload_n 0, 1) := by decide +kernel
theorem dX2_touchOf_17 : decode cX2_touchOf 17 = .ok (.getfield 32, 3) := by decide +kernel
theorem dX2_touchOf_20 : decode cX2_touchOf 20 = .ok (.iload_n 1, 1) := by decide +kernel
theorem dX2_touchOf_21 : decode cX2_touchOf 21 = .ok (.bipush 6, 2) := by decide +kernel
theorem dX2_touchOf_23 : decode cX2_touchOf 23 = .ok (.imul, 1) := by decide +kernel
theorem dX2_touchOf_24 : decode cX2_touchOf 24 = .ok (.iload_n 2, 1) := by decide +kernel
theorem dX2_touchOf_25 : decode cX2_touchOf 25 = .ok (.iadd, 1) := by decide +kernel
theorem dX2_touchOf_26 : decode cX2_touchOf 26 = .ok (.iaload, 1) := by decide +kernel
theorem dX2_touchOf_27 : decode cX2_touchOf 27 = .ok (.goto 4, 3) := by decide +kernel
theorem dX2_touchOf_30 : decode cX2_touchOf 30 = .ok (.iconst 0, 1) := by decide +kernel
theorem dX2_touchOf_31 : decode cX2_touchOf 31 = .ok (.ireturn, 1) := by decide +kernel
theorem dX2_coinsOf_0 : decode cX2_coinsOf 0 = .ok (.aload_n 0, 1) := by decide +kernel
theorem dX2_coinsOf_1 : decode cX2_coinsOf 1 = .ok (.iload_n 1, 1) := by decide +kernel
theorem dX2_coinsOf_2 : decode cX2_coinsOf 2 = .ok (.invokevirtual 50, 3) := by decide +kernel
theorem dX2_coinsOf_5 : decode cX2_coinsOf 5 = .ok (.ifCond .eq 12, 3) := by decide +kernel
theorem dX2_coinsOf_8 : decode cX2_coinsOf 8 = .ok (.aload_n 0, 1) := by decide +kernel
theorem dX2_coinsOf_9 : decode cX2_coinsOf 9 = .ok (.getfield 35, 3) := by decide +kernel
theorem dX2_coinsOf_12 : decode cX2_coinsOf 12 = .ok (.iload_n 1, 1) := by decide +kernel
theorem dX2_coinsOf_13 : decode cX2_coinsOf 13 = .ok (.iaload, 1) := by decide +kernel
theorem dX2_coinsOf_14 : decode cX2_coinsOf 14 = .ok (.goto 4, 3) := by decide +kernel
theorem dX2_coinsOf_17 : decode cX2_coinsOf 17 = .ok (.iconst 0, 1) := by decide +kernel
theorem dX2_coinsOf_18 : decode cX2_coinsOf 18 = .ok (.ireturn, 1) := by decide +kernel
theorem dX2_kinOf_0 : decode cX2_kinOf 0 = .ok (.aload_n 0, 1) := by decide +kernel
theorem dX2_kinOf_1 : decode cX2_kinOf 1 = .ok (.iload_n 1, 1) := by decide +kernel
theorem dX2_kinOf_2 : decode cX2_kinOf 2 = .ok (.invokevirtual 50, 3) := by decide +kernel
theorem dX2_kinOf_5 : decode cX2_kinOf 5 = .ok (.ifCond .eq 12, 3) := by decide +kernel
theorem dX2_kinOf_8 : decode cX2_kinOf 8 = .ok (.aload_n 0, 1) := by decide +kernel
theorem dX2_kinOf_9 : decode cX2_kinOf 9 = .ok (.getfield 38, 3) := by decide +kernel
theorem dX2_kinOf_12 : decode cX2_kinOf 12 = .ok (.iload_n 1, 1) := by decide +kernel
theorem dX2_kinOf_13 : decode cX2_kinOf 13 = .ok (.iaload, 1) := by decide +kernel
theorem dX2_kinOf_14 : decode cX2_kinOf 14 = .ok (.goto 5, 3) := by decide +kernel
theorem dX2_kinOf_17 : decode cX2_kinOf 17 = .ok (.bipush 9, 2) := by decide +kernel
theorem dX2_kinOf_19 : decode cX2_kinOf 19 = .ok (.ireturn, 1) := by decide +kernel
theorem dX2_worthTo_0 : decode cX2_worthTo 0 = .ok (.aload_n 0, 1) := by decide +kernel
theorem dX2_worthTo_1 : decode cX2_worthTo 1 = .ok (.iload_n 1, 1) := by decide +kernel
theorem dX2_worthTo_2 : decode cX2_worthTo 2 = .ok (.invokevirtual 50, 3) := by decide +kernel
theorem dX2_worthTo_5 : decode cX2_worthTo 5 = .ok (.ifCond .eq 25, 3) := by decide +kernel
theorem dX2_worthTo_8 : decode cX2_worthTo 8 = .ok (.aload_n 0, 1) := by decide +kernel
theorem dX2_worthTo_9 : decode cX2_worthTo 9 = .ok (.iload_n 2, 1) := by decide +kernel
theorem dX2_worthTo_10 : decode cX2_worthTo 10 = .ok (.invokevirtual 54, 3) := by decide +kernel
theorem dX2_worthTo_13 : decode cX2_worthTo 13 = .ok (.ifCond .eq 17, 3) := by decide +kernel
theorem dX2_worthTo_16 : decode cX2_worthTo 16 = .ok (.aload_n 0, 1) := by decide +kernel
theorem dX2_worthTo_17 : decode cX2_worthTo 17 = .ok (.getfield 41, 3) := by decide +kernel
theorem dX2_worthTo_20 : decode cX2_worthTo 20 = .ok (.iload_n 1, 1) := by decide +kernel
theorem dX2_worthTo_21 : decode cX2_worthTo 21 = .ok (.bipush 6, 2) := by decide +kernel
theorem dX2_worthTo_23 : decode cX2_worthTo 23 = .ok (.imul, 1) := by decide +kernel
theorem dX2_worthTo_24 : decode cX2_worthTo 24 = .ok (.iload_n 2, 1) := by decide +kernel
theorem dX2_worthTo_25 : decode cX2_worthTo 25 = .ok (.iadd, 1) := by decide +kernel
theorem dX2_worthTo_26 : decode cX2_worthTo 26 = .ok (.iaload, 1) := by decide +kernel
theorem dX2_worthTo_27 : decode cX2_worthTo 27 = .ok (.goto 4, 3) := by decide +kernel
theorem dX2_worthTo_30 : decode cX2_worthTo 30 = .ok (.iconst 0, 1) := by decide +kernel
theorem dX2_worthTo_31 : decode cX2_worthTo 31 = .ok (.ireturn, 1) := by decide +kernel
theorem dX2_addField_0 : decode cX2_addField 0 = .ok (.iload_n 1, 1) := by decide +kernel
theorem dX2_addField_1 : decode cX2_addField 1 = .ok (.iconst 1, 1) := by decide +kernel
theorem dX2_addField_2 : decode cX2_addField 2 = .ok (.if_icmp .lt 25, 3) := by decide +kernel
theorem dX2_addField_5 : decode cX2_addField 5 = .ok (.iload_n 1, 1) := by decide +kernel
theorem dX2_addField_6 : decode cX2_addField 6 = .ok (.bipush 9, 2) := by decide +kernel
theorem dX2_addField_8 : decode cX2_addField 8 = .ok (.if_icmp .gt 19, 3) := by decide +kernel
theorem dX2_addField_11 : decode cX2_addField 11 = .ok (.aload_n 0, 1) := by decide +kernel
theorem dX2_addField_12 : decode cX2_addField 12 = .ok (.getfield 9, 3) := by decide +kernel
theorem dX2_addField_15 : decode cX2_addField 15 = .ok (.ifCond .lt 12, 3) := by decide +kernel
theorem dX2_addField_18 : decode cX2_addField 18 = .ok (.aload_n 0, 1) := by decide +kernel
theorem dX2_addField_19 : decode cX2_addField 19 = .ok (.getfield 9, 3) := by decide +kernel
theorem dX2_addField_22 : decode cX2_addField 22 = .ok (.bipush 6, 2) := by decide +kernel
theorem dX2_addField_24 : decode cX2_addField 24 = .ok (.if_icmp .lt 5, 3) := by decide +kernel
theorem dX2_addField_27 : decode cX2_addField 27 = .ok (.iconst 0, 1) := by decide +kernel
theorem dX2_addField_28 : decode cX2_addField 28 = .ok (.ireturn, 1) := by decide +kernel
theorem dX2_addField_29 : decode cX2_addField 29 = .ok (.aload_n 0, 1) := by decide +kernel
theorem dX2_addField_30 : decode cX2_addField 30 = .ok (.getfield 9, 3) := by decide +kernel
theorem dX2_addField_33 : decode cX2_addField 33 = .ok (.istore_n 2, 1) := by decide +kernel
theorem dX2_addField_34 : decode cX2_addField 34 = .ok (.aload_n 0, 1) := by decide +kernel
theorem dX2_addField_35 : decode cX2_addField 35 = .ok (.dup, 1) := by decide +kernel
theorem dX2_addField_36 : decode cX2_addField 36 = .ok (.getfield 9, 3) := by decide +kernel
theorem dX2_addField_39 : decode cX2_addField 39 = .ok (.iconst 1, 1) := by decide +kernel
theorem dX2_addField_40 : decode cX2_addField 40 = .ok (.iadd, 1) := by decide +kernel
theorem dX2_addField_41 : decode cX2_addField 41 = .ok (.putfield 9, 3) := by decide +kernel
theorem dX2_addField_44 : decode cX2_addField 44 = .ok (.aload_n 0, 1) := by decide +kernel
theorem dX2_addField_45 : decode cX2_addField 45 = .ok (.getfield 25, 3) := by decide +kernel
theorem dX2_addField_48 : decode cX2_addField 48 = .ok (.iload_n 2, 1) := by decide +kernel
theorem dX2_addField_49 : decode cX2_addField 49 = .ok (.iload_n 1, 1) := by decide +kernel
theorem dX2_addField_50 : decode cX2_addField 50 = .ok (.iastore, 1) := by decide +kernel
theorem dX2_addField_51 : decode cX2_addField 51 = .ok (.aload_n 0, 1) := by decide +kernel
theorem dX2_addField_52 : decode cX2_addField 52 = .ok (.getfield 29, 3) := by decide +kernel
theorem dX2_addField_55 : decode cX2_addField 55 = .ok (.iload_n 2, 1) := by decide +kernel
theorem dX2_addField_56 : decode cX2_addField 56 = .ok (.bipush 9, 2) := by decide +kernel
theorem dX2_addField_58 : decode cX2_addField 58 = .ok (.iastore, 1) := by decide +kernel
theorem dX2_addField_59 : decode cX2_addField 59 = .ok (.iconst 0, 1) := by decide +kernel
theorem dX2_addField_60 : decode cX2_addField 60 = .ok (.istore_n 3, 1) := by decide +kernel
theorem dX2_addField_61 : decode cX2_addField 61 = .ok (.iload_n 3, 1) := by decide +kernel
theorem dX2_addField_62 : decode cX2_addField 62 = .ok (.aload_n 0, 1) := by decide +kernel
theorem dX2_addField_63 : decode cX2_addField 63 = .ok (.getfield 15, 3) := by decide +kernel
theorem dX2_addField_66 : decode cX2_addField 66 = .ok (.if_icmp .ge 20, 3) := by decide +kernel
theorem dX2_addField_69 : decode cX2_addField 69 = .ok (.aload_n 0, 1) := by decide +kernel
theorem dX2_addField_70 : decode cX2_addField 70 = .ok (.iload_n 3, 1) := by decide +kernel
theorem dX2_addField_71 : decode cX2_addField 71 = .ok (.iload_n 2, 1) := by decide +kernel
theorem dX2_addField_72 : decode cX2_addField 72 = .ok (.bipush 10, 2) := by decide +kernel
theorem dX2_addField_74 : decode cX2_addField 74 = .ok (.iload_n 1, 1) := by decide +kernel
theorem dX2_addField_75 : decode cX2_addField 75 = .ok (.imul, 1) := by decide +kernel
theorem dX2_addField_76 : decode cX2_addField 76 = .ok (.invokevirtual 57, 3) := by decide +kernel
theorem dX2_addField_79 : decode cX2_addField 79 = .ok (.pop, 1) := by decide +kernel
theorem dX2_addField_80 : decode cX2_addField 80 = .ok (.iinc 3 1, 3) := by decide +kernel
theorem dX2_addField_83 : decode cX2_addField 83 = .ok (.goto (-22), 3) := by decide +kernel
theorem dX2_addField_86 : decode cX2_addField 86 = .ok (.iconst 1, 1) := by decide +kernel
theorem dX2_addField_87 : decode cX2_addField 87 = .ok (.ireturn, 1) := by decide +kernel
theorem dX2_addPerson_0 : decode cX2_addPerson 0 = .ok (.aload_n 0, 1) := by decide +kernel
theorem dX2_addPerson_1 : decode cX2_addPerson 1 = .ok (.getfield 15, 3) := by decide +kernel
theorem dX2_addPerson_4 : decode cX2_addPerson 4 = .ok (.ifCond .lt 19, 3) := by decide +kernel
theorem dX2_addPerson_7 : decode cX2_addPerson 7 = .ok (.aload_n 0, 1) := by decide +kernel
theorem dX2_addPerson_8 : decode cX2_addPerson 8 = .ok (.getfield 15, 3) := by decide +kernel
theorem dX2_addPerson_11 : decode cX2_addPerson 11 = .ok (.iconst 3, 1) := by decide +kernel
theorem dX2_addPerson_12 : decode cX2_addPerson 12 = .ok (.if_icmp .ge 11, 3) := by decide +kernel
theorem dX2_addPerson_15 : decode cX2_addPerson 15 = .ok (.aload_n 0, 1) := by decide +kernel
theorem dX2_addPerson_16 : decode cX2_addPerson 16 = .ok (.iload_n 2, 1) := by decide +kernel
theorem dX2_addPerson_17 : decode cX2_addPerson 17 = .ok (.invokevirtual 61, 3) := by decide +kernel
theorem dX2_addPerson_20 : decode cX2_addPerson 20 = .ok (.ifCond .ne 5, 3) := by decide +kernel
theorem dX2_addPerson_23 : decode cX2_addPerson 23 = .ok (.iconst 0, 1) := by decide +kernel
theorem dX2_addPerson_24 : decode cX2_addPerson 24 = .ok (.ireturn, 1) := by decide +kernel
theorem dX2_addPerson_25 : decode cX2_addPerson 25 = .ok (.aload_n 0, 1) := by decide +kernel
theorem dX2_addPerson_26 : decode cX2_addPerson 26 = .ok (.getfield 15, 3) := by decide +kernel
theorem dX2_addPerson_29 : decode cX2_addPerson 29 = .ok (.istore_n 3, 1) := by decide +kernel
theorem dX2_addPerson_30 : decode cX2_addPerson 30 = .ok (.aload_n 0, 1) := by decide +kernel
theorem dX2_addPerson_31 : decode cX2_addPerson 31 = .ok (.dup, 1) := by decide +kernel
theorem dX2_addPerson_32 : decode cX2_addPerson 32 = .ok (.getfield 15, 3) := by decide +kernel
theorem dX2_addPerson_35 : decode cX2_addPerson 35 = .ok (.iconst 1, 1) := by decide +kernel
theorem dX2_addPerson_36 : decode cX2_addPerson 36 = .ok (.iadd, 1) := by decide +kernel
theorem dX2_addPerson_37 : decode cX2_addPerson 37 = .ok (.putfield 15, 3) := by decide +kernel
theorem dX2_addPerson_40 : decode cX2_addPerson 40 = .ok (.aload_n 0, 1) := by decide +kernel
theorem dX2_addPerson_41 : decode cX2_addPerson 41 = .ok (.getfield 35, 3) := by decide +kernel
theorem dX2_addPerson_44 : decode cX2_addPerson 44 = .ok (.iload_n 3, 1) := by decide +kernel
theorem dX2_addPerson_45 : decode cX2_addPerson 45 = .ok (.iload_n 1, 1) := by decide +kernel
theorem dX2_addPerson_46 : decode cX2_addPerson 46 = .ok (.iastore, 1) := by decide +kernel
theorem dX2_addPerson_47 : decode cX2_addPerson 47 = .ok (.aload_n 0, 1) := by decide +kernel
theorem dX2_addPerson_48 : decode cX2_addPerson 48 = .ok (.getfield 38, 3) := by decide +kernel
theorem dX2_addPerson_51 : decode cX2_addPerson 51 = .ok (.iload_n 3, 1) := by decide +kernel
theorem dX2_addPerson_52 : decode cX2_addPerson 52 = .ok (.iload_n 2, 1) := by decide +kernel
theorem dX2_addPerson_53 : decode cX2_addPerson 53 = .ok (.iastore, 1) := by decide +kernel
theorem dX2_addPerson_54 : decode cX2_addPerson 54 = .ok (.iconst 0, 1) := by decide +kernel
theorem dX2_addPerson_55 : decode cX2_addPerson 55 = .ok (.istore 4, 2) := by decide +kernel
theorem dX2_addPerson_57 : decode cX2_addPerson 57 = .ok (.iload 4, 2) := by decide +kernel
theorem dX2_addPerson_59 : decode cX2_addPerson 59 = .ok (.aload_n 0, 1) := by decide +kernel
theorem dX2_addPerson_60 : decode cX2_addPerson 60 = .ok (.getfield 9, 3) := by decide +kernel
theorem dX2_addPerson_63 : decode cX2_addPerson 63 = .ok (.if_icmp .ge 26, 3) := by decide +kernel
theorem dX2_addPerson_66 : decode cX2_addPerson 66 = .ok (.aload_n 0, 1) := by decide +kernel
theorem dX2_addPerson_67 : decode cX2_addPerson 67 = .ok (.iload_n 3, 1) := by decide +kernel
theorem dX2_addPerson_68 : decode cX2_addPerson 68 = .ok (.iload 4, 2) := by decide +kernel
theorem dX2_addPerson_70 : decode cX2_addPerson 70 = .ok (.bipush 10, 2) := by decide +kernel
theorem dX2_addPerson_72 : decode cX2_addPerson 72 = .ok (.aload_n 0, 1) := by decide +kernel
theorem dX2_addPerson_73 : decode cX2_addPerson 73 = .ok (.iload 4, 2) := by decide +kernel
theorem dX2_addPerson_75 : decode cX2_addPerson 75 = .ok (.invokevirtual 64, 3) := by decide +kernel
theorem dX2_addPerson_78 : decode cX2_addPerson 78 = .ok (.imul, 1) := by decide +kernel
theorem dX2_addPerson_79 : decode cX2_addPerson 79 = .ok (.invokevirtual 57, 3) := by decide +kernel
theorem dX2_addPerson_82 : decode cX2_addPerson 82 = .ok (.pop, 1) := by decide +kernel
theorem dX2_addPerson_83 : decode cX2_addPerson 83 = .ok (.iinc 4 1, 3) := by decide +kernel
theorem dX2_addPerson_86 : decode cX2_addPerson 86 = .ok (.goto (-29), 3) := by decide +kernel
theorem dX2_addPerson_89 : decode cX2_addPerson 89 = .ok (.iconst 1, 1) := by decide +kernel
theorem dX2_addPerson_90 : decode cX2_addPerson 90 = .ok (.ireturn, 1) := by decide +kernel
theorem dX2_join_0 : decode cX2_join 0 = .ok (.aload_n 0, 1) := by decide +kernel
theorem dX2_join_1 : decode cX2_join 1 = .ok (.iload_n 1, 1) := by decide +kernel
theorem dX2_join_2 : decode cX2_join 2 = .ok (.iload_n 2, 1) := by decide +kernel
theorem dX2_join_3 : decode cX2_join 3 = .ok (.invokevirtual 68, 3) := by decide +kernel
theorem dX2_join_6 : decode cX2_join 6 = .ok (.ifCond .eq 12, 3) := by decide +kernel
theorem dX2_join_9 : decode cX2_join 9 = .ok (.aload_n 0, 1) := by decide +kernel
theorem dX2_join_10 : decode cX2_join 10 = .ok (.iload_n 1, 1) := by decide +kernel
theorem dX2_join_11 : decode cX2_join 11 = .ok (.iload_n 2, 1) := by decide +kernel
theorem dX2_join_12 : decode cX2_join 12 = .ok (.invokevirtual 72, 3) := by decide +kernel
theorem dX2_join_15 : decode cX2_join 15 = .ok (.ifCond .eq 5, 3) := by decide +kernel
theorem dX2_join_18 : decode cX2_join 18 = .ok (.iconst 0, 1) := by decide +kernel
theorem dX2_join_19 : decode cX2_join 19 = .ok (.ireturn, 1) := by decide +kernel
theorem dX2_join_20 : decode cX2_join 20 = .ok (.aload_n 0, 1) := by decide +kernel
theorem dX2_join_21 : decode cX2_join 21 = .ok (.iload_n 1, 1) := by decide +kernel
theorem dX2_join_22 : decode cX2_join 22 = .ok (.iload_n 2, 1) := by decide +kernel
theorem dX2_join_23 : decode cX2_join 23 = .ok (.iload_n 3, 1) := by decide +kernel
theorem dX2_join_24 : decode cX2_join 24 = .ok (.invokevirtual 76, 3) := by decide +kernel
theorem dX2_join_27 : decode cX2_join 27 = .ok (.iconst 1, 1) := by decide +kernel
theorem dX2_join_28 : decode cX2_join 28 = .ok (.ireturn, 1) := by decide +kernel
theorem dX2_setTouch_0 : decode cX2_setTouch 0 = .ok (.aload_n 0, 1) := by decide +kernel
theorem dX2_setTouch_1 : decode cX2_setTouch 1 = .ok (.iload_n 1, 1) := by decide +kernel
theorem dX2_setTouch_2 : decode cX2_setTouch 2 = .ok (.iload_n 2, 1) := by decide +kernel
theorem dX2_setTouch_3 : decode cX2_setTouch 3 = .ok (.invokevirtual 68, 3) := by decide +kernel
theorem dX2_setTouch_6 : decode cX2_setTouch 6 = .ok (.ifCond .eq 27, 3) := by decide +kernel
theorem dX2_setTouch_9 : decode cX2_setTouch 9 = .ok (.aload_n 0, 1) := by decide +kernel
theorem dX2_setTouch_10 : decode cX2_setTouch 10 = .ok (.getfield 32, 3) := by decide +kernel
theorem dX2_setTouch_13 : decode cX2_setTouch 13 = .ok (.iload_n 1, 1) := by decide +kernel
theorem dX2_setTouch_14 : decode cX2_setTouch 14 = .ok (.bipush 6, 2) := by decide +kernel
theorem dX2_setTouch_16 : decode cX2_setTouch 16 = .ok (.imul, 1) := by decide +kernel
theorem dX2_setTouch_17 : decode cX2_setTouch 17 = .ok (.iload_n 2, 1) := by decide +kernel
theorem dX2_setTouch_18 : decode cX2_setTouch 18 = .ok (.iadd, 1) := by decide +kernel
theorem dX2_setTouch_19 : decode cX2_setTouch 19 = .ok (.iload_n 3, 1) := by decide +kernel
theorem dX2_setTouch_20 : decode cX2_setTouch 20 = .ok (.iastore, 1) := by decide +kernel
theorem dX2_setTouch_21 : decode cX2_setTouch 21 = .ok (.aload_n 0, 1) := by decide +kernel
theorem dX2_setTouch_22 : decode cX2_setTouch 22 = .ok (.getfield 32, 3) := by decide +kernel
theorem dX2_setTouch_25 : decode cX2_setTouch 25 = .ok (.iload_n 2, 1) := by decide +kernel
theorem dX2_setTouch_26 : decode cX2_setTouch 26 = .ok (.bipush 6, 2) := by decide +kernel
theorem dX2_setTouch_28 : decode cX2_setTouch 28 = .ok (.imul, 1) := by decide +kernel
theorem dX2_setTouch_29 : decode cX2_setTouch 29 = .ok (.iload_n 1, 1) := by decide +kernel
theorem dX2_setTouch_30 : decode cX2_setTouch 30 = .ok (.iadd, 1) := by decide +kernel
theorem dX2_setTouch_31 : decode cX2_setTouch 31 = .ok (.iload_n 3, 1) := by decide +kernel
theorem dX2_setTouch_32 : decode cX2_setTouch 32 = .ok (.iastore, 1) := by decide +kernel
theorem dX2_setTouch_33 : decode cX2_setTouch 33 = .ok (.return_, 1) := by decide +kernel
theorem dX2_setWorth_0 : decode cX2_setWorth 0 = .ok (.aload_n 0, 1) := by decide +kernel
theorem dX2_setWorth_1 : decode cX2_setWorth 1 = .ok (.iload_n 1, 1) := by decide +kernel
theorem dX2_setWorth_2 : decode cX2_setWorth 2 = .ok (.invokevirtual 50, 3) := by decide +kernel
theorem dX2_setWorth_5 : decode cX2_setWorth 5 = .ok (.ifCond .eq 11, 3) := by decide +kernel
theorem dX2_setWorth_8 : decode cX2_setWorth 8 = .ok (.aload_n 0, 1) := by decide +kernel
theorem dX2_setWorth_9 : decode cX2_setWorth 9 = .ok (.iload_n 2, 1) := by decide +kernel
theorem dX2_setWorth_10 : decode cX2_setWorth 10 = .ok (.invokevirtual 54, 3) := by decide +kernel
theorem dX2_setWorth_13 : decode cX2_setWorth 13 = .ok (.ifCond .ne 5, 3) := by decide +kernel
theorem dX2_setWorth_16 : decode cX2_setWorth 16 = .ok (.iconst 0, 1) := by decide +kernel
theorem dX2_setWorth_17 : decode cX2_setWorth 17 = .ok (.ireturn, 1) := by decide +kernel
theorem dX2_setWorth_18 : decode cX2_setWorth 18 = .ok (.aload_n 0, 1) := by decide +kernel
theorem dX2_setWorth_19 : decode cX2_setWorth 19 = .ok (.getfield 41, 3) := by decide +kernel
theorem dX2_setWorth_22 : decode cX2_setWorth 22 = .ok (.iload_n 1, 1) := by decide +kernel
theorem dX2_setWorth_23 : decode cX2_setWorth 23 = .ok (.bipush 6, 2) := by decide +kernel
theorem dX2_setWorth_25 : decode cX2_setWorth 25 = .ok (.imul, 1) := by decide +kernel
theorem dX2_setWorth_26 : decode cX2_setWorth 26 = .ok (.iload_n 2, 1) := by decide +kernel
theorem dX2_setWorth_27 : decode cX2_setWorth 27 = .ok (.iadd, 1) := by decide +kernel
theorem dX2_setWorth_28 : decode cX2_setWorth 28 = .ok (.iload_n 3, 1) := by decide +kernel
theorem dX2_setWorth_29 : decode cX2_setWorth 29 = .ok (.iastore, 1) := by decide +kernel
theorem dX2_setWorth_30 : decode cX2_setWorth 30 = .ok (.iconst 1, 1) := by decide +kernel
theorem dX2_setWorth_31 : decode cX2_setWorth 31 = .ok (.ireturn, 1) := by decide +kernel
theorem dX2_setLaw_0 : decode cX2_setLaw 0 = .ok (.iload_n 1, 1) := by decide +kernel
theorem dX2_setLaw_1 : decode cX2_setLaw 1 = .ok (.ifCond .ne 11, 3) := by decide +kernel
theorem dX2_setLaw_4 : decode cX2_setLaw 4 = .ok (.aload_n 0, 1) := by decide +kernel
theorem dX2_setLaw_5 : decode cX2_setLaw 5 = .ok (.iload_n 2, 1) := by decide +kernel
theorem dX2_setLaw_6 : decode cX2_setLaw 6 = .ok (.putfield 18, 3) := by decide +kernel
theorem dX2_setLaw_9 : decode cX2_setLaw 9 = .ok (.goto 8, 3) := by decide +kernel
theorem dX2_setLaw_12 : decode cX2_setLaw 12 = .ok (.aload_n 0, 1) := by decide +kernel
theorem dX2_setLaw_13 : decode cX2_setLaw 13 = .ok (.iload_n 2, 1) := by decide +kernel
theorem dX2_setLaw_14 : decode cX2_setLaw 14 = .ok (.putfield 22, 3) := by decide +kernel
theorem dX2_setLaw_17 : decode cX2_setLaw 17 = .ok (.return_, 1) := by decide +kernel
theorem dX2_give_0 : decode cX2_give 0 = .ok (.aload_n 0, 1) := by decide +kernel
theorem dX2_give_1 : decode cX2_give 1 = .ok (.iload_n 1, 1) := by decide +kernel
theorem dX2_give_2 : decode cX2_give 2 = .ok (.invokevirtual 61, 3) := by decide +kernel
theorem dX2_give_5 : decode cX2_give 5 = .ok (.ifCond .eq 11, 3) := by decide +kernel
theorem dX2_give_8 : decode cX2_give 8 = .ok (.aload_n 0, 1) := by decide +kernel
theorem dX2_give_9 : decode cX2_give 9 = .ok (.iload_n 2, 1) := by decide +kernel
theorem dX2_give_10 : decode cX2_give 10 = .ok (.invokevirtual 54, 3) := by decide +kernel
theorem dX2_give_13 : decode cX2_give 13 = .ok (.ifCond .ne 5, 3) := by decide +kernel
theorem dX2_give_16 : decode cX2_give 16 = .ok (.iconst 0, 1) := by decide +kernel
theorem dX2_give_17 : decode cX2_give 17 = .ok (.ireturn, 1) := by decide +kernel
theorem dX2_give_18 : decode cX2_give 18 = .ok (.aload_n 0, 1) := by decide +kernel
theorem dX2_give_19 : decode cX2_give 19 = .ok (.getfield 29, 3) := by decide +kernel
theorem dX2_give_22 : decode cX2_give 22 = .ok (.iload_n 2, 1) := by decide +kernel
theorem dX2_give_23 : decode cX2_give 23 = .ok (.iload_n 1, 1) := by decide +kernel
theorem dX2_give_24 : decode cX2_give 24 = .ok (.iastore, 1) := by decide +kernel
theorem dX2_give_25 : decode cX2_give 25 = .ok (.iconst 1, 1) := by decide +kernel
theorem dX2_give_26 : decode cX2_give 26 = .ok (.ireturn, 1) := by decide +kernel
theorem dX2_earn_0 : decode cX2_earn 0 = .ok (.aload_n 0, 1) := by decide +kernel
theorem dX2_earn_1 : decode cX2_earn 1 = .ok (.iload_n 1, 1) := by decide +kernel
theorem dX2_earn_2 : decode cX2_earn 2 = .ok (.invokevirtual 50, 3) := by decide +kernel
theorem dX2_earn_5 : decode cX2_earn 5 = .ok (.ifCond .eq 23, 3) := by decide +kernel
theorem dX2_earn_8 : decode cX2_earn 8 = .ok (.aload_n 0, 1) := by decide +kernel
theorem dX2_earn_9 : decode cX2_earn 9 = .ok (.getfield 35, 3) := by decide +kernel
theorem dX2_earn_12 : decode cX2_earn 12 = .ok (.iload_n 1, 1) := by decide +kernel
theorem dX2_earn_13 : decode cX2_earn 13 = .ok (.sipush 999, 3) := by decide +kernel
theorem dX2_earn_16 : decode cX2_earn 16 = .ok (.aload_n 0, 1) := by decide +kernel
theorem dX2_earn_17 : decode cX2_earn 17 = .ok (.getfield 35, 3) := by decide +kernel
theorem dX2_earn_20 : decode cX2_earn 20 = .ok (.iload_n 1, 1) := by decide +kernel
theorem dX2_earn_21 : decode cX2_earn 21 = .ok (.iaload, 1) := by decide +kernel
theorem dX2_earn_22 : decode cX2_earn 22 = .ok (.iload_n 2, 1) := by decide +kernel
theorem dX2_earn_23 : decode cX2_earn 23 = .ok (.iadd, 1) := by decide +kernel
theorem dX2_earn_24 : decode cX2_earn 24 = .ok (.invokestatic 80, 3) := by decide +kernel
theorem dX2_earn_27 : decode cX2_earn 27 = .ok (.iastore, 1) := by decide +kernel
theorem dX2_earn_28 : decode cX2_earn 28 = .ok (.return_, 1) := by decide +kernel
theorem dX2_nobodyOwes_0 : decode cX2_nobodyOwes 0 = .ok (.iconst 0, 1) := by decide +kernel
theorem dX2_nobodyOwes_1 : decode cX2_nobodyOwes 1 = .ok (.istore_n 1, 1) := by decide +kernel
theorem dX2_nobodyOwes_2 : decode cX2_nobodyOwes 2 = .ok (.iload_n 1, 1) := by decide +kernel
theorem dX2_nobodyOwes_3 : decode cX2_nobodyOwes 3 = .ok (.aload_n 0, 1) := by decide +kernel
theorem dX2_nobodyOwes_4 : decode cX2_nobodyOwes 4 = .ok (.getfield 15, 3) := by decide +kernel
theorem dX2_nobodyOwes_7 : decode cX2_nobodyOwes 7 = .ok (.if_icmp .ge 19, 3) := by decide +kernel
theorem dX2_nobodyOwes_10 : decode cX2_nobodyOwes 10 = .ok (.aload_n 0, 1) := by decide +kernel
theorem dX2_nobodyOwes_11 : decode cX2_nobodyOwes 11 = .ok (.iload_n 1, 1) := by decide +kernel
theorem dX2_nobodyOwes_12 : decode cX2_nobodyOwes 12 = .ok (.invokevirtual 85, 3) := by decide +kernel
theorem dX2_nobodyOwes_15 : decode cX2_nobodyOwes 15 = .ok (.ifCond .ge 5, 3) := by decide +kernel
theorem dX2_nobodyOwes_18 : decode cX2_nobodyOwes 18 = .ok (.iconst 0, 1) := by decide +kernel
theorem dX2_nobodyOwes_19 : decode cX2_nobodyOwes 19 = .ok (.ireturn, 1) := by decide +kernel
theorem dX2_nobodyOwes_20 : decode cX2_nobodyOwes 20 = .ok (.iinc 1 1, 3) := by decide +kernel
theorem dX2_nobodyOwes_23 : decode cX2_nobodyOwes 23 = .ok (.goto (-21), 3) := by decide +kernel
theorem dX2_nobodyOwes_26 : decode cX2_nobodyOwes 26 = .ok (.iconst 1, 1) := by decide +kernel
theorem dX2_nobodyOwes_27 : decode cX2_nobodyOwes 27 = .ok (.ireturn, 1) := by decide +kernel
theorem dX2_bars_0 : decode cX2_bars 0 = .ok (.aload_n 0, 1) := by decide +kernel
theorem dX2_bars_1 : decode cX2_bars 1 = .ok (.iload_n 1, 1) := by decide +kernel
theorem dX2_bars_2 : decode cX2_bars 2 = .ok (.invokevirtual 54, 3) := by decide +kernel
theorem dX2_bars_5 : decode cX2_bars 5 = .ok (.ifCond .eq 11, 3) := by decide +kernel
theorem dX2_bars_8 : decode cX2_bars 8 = .ok (.aload_n 0, 1) := by decide +kernel
theorem dX2_bars_9 : decode cX2_bars 9 = .ok (.iload_n 2, 1) := by decide +kernel
theorem dX2_bars_10 : decode cX2_bars 10 = .ok (.invokevirtual 54, 3) := by decide +kernel
theorem dX2_bars_13 : decode cX2_bars 13 = .ok (.ifCond .ne 5, 3) := by decide +kernel
theorem dX2_bars_16 : decode cX2_bars 16 = .ok (.iconst 0, 1) := by decide +kernel
theorem dX2_bars_17 : decode cX2_bars 17 = .ok (.ireturn, 1) := by decide +kernel
theorem dX2_bars_18 : decode cX2_bars 18 = .ok (.aload_n 0, 1) := by decide +kernel
theorem dX2_bars_19 : decode cX2_bars 19 = .ok (.getfield 32, 3) := by decide +kernel
theorem dX2_bars_22 : decode cX2_bars 22 = .ok (.iload_n 1, 1) := by decide +kernel
theorem dX2_bars_23 : decode cX2_bars 23 = .ok (.bipush 6, 2) := by decide +kernel
theorem dX2_bars_25 : decode cX2_bars 25 = .ok (.imul, 1) := by decide +kernel
theorem dX2_bars_26 : decode cX2_bars 26 = .ok (.iload_n 2, 1) := by decide +kernel
theorem dX2_bars_27 : decode cX2_bars 27 = .ok (.iadd, 1) := by decide +kernel
theorem dX2_bars_28 : decode cX2_bars 28 = .ok (.iaload, 1) := by decide +kernel
theorem dX2_bars_29 : decode cX2_bars 29 = .ok (.istore_n 3, 1) := by decide +kernel
theorem dX2_bars_30 : decode cX2_bars 30 = .ok (.iload_n 3, 1) := by decide +kernel
theorem dX2_bars_31 : decode cX2_bars 31 = .ok (.iconst 1, 1) := by decide +kernel
theorem dX2_bars_32 : decode cX2_bars 32 = .ok (.if_icmp .eq 15, 3) := by decide +kernel
theorem dX2_bars_35 : decode cX2_bars 35 = .ok (.iload_n 3, 1) := by decide +kernel
theorem dX2_bars_36 : decode cX2_bars 36 = .ok (.iconst 3, 1) := by decide +kernel
theorem dX2_bars_37 : decode cX2_bars 37 = .ok (.if_icmp .ne 14, 3) := by decide +kernel
theorem dX2_bars_40 : decode cX2_bars 40 = .ok (.aload_n 0, 1) := by decide +kernel
theorem dX2_bars_41 : decode cX2_bars 41 = .ok (.getfield 18, 3) := by decide +kernel
theorem dX2_bars_44 : decode cX2_bars 44 = .ok (.ifCond .eq 7, 3) := by decide +kernel
theorem dX2_bars_47 : decode cX2_bars 47 = .ok (.iconst 1, 1) := by decide +kernel
theorem dX2_bars_48 : decode cX2_bars 48 = .ok (.goto 4, 3) := by decide +kernel
theorem dX2_bars_51 : decode cX2_bars 51 = .ok (.iconst 0, 1) := by decide +kernel
theorem dX2_bars_52 : decode cX2_bars 52 = .ok (.ireturn, 1) := by decide +kernel
theorem dX2_barBits_0 : decode cX2_barBits 0 = .ok (.iconst 0, 1) := by decide +kernel
theorem dX2_barBits_1 : decode cX2_barBits 1 = .ok (.istore_n 2, 1) := by decide +kernel
theorem dX2_barBits_2 : decode cX2_barBits 2 = .ok (.iconst 0, 1) := by decide +kernel
theorem dX2_barBits_3 : decode cX2_barBits 3 = .ok (.istore_n 3, 1) := by decide +kernel
theorem dX2_barBits_4 : decode cX2_barBits 4 = .ok (.iload_n 3, 1) := by decide +kernel
theorem dX2_barBits_5 : decode cX2_barBits 5 = .ok (.aload_n 0, 1) := by decide +kernel
theorem dX2_barBits_6 : decode cX2_barBits 6 = .ok (.getfield 9, 3) := by decide +kernel
theorem dX2_barBits_9 : decode cX2_barBits 9 = .ok (.if_icmp .ge 28, 3) := by decide +kernel
theorem dX2_barBits_12 : decode cX2_barBits 12 = .ok (.iload_n 2, 1) := by decide +kernel
theorem dX2_barBits_13 : decode cX2_barBits 13 = .ok (.aload_n 0, 1) := by decide +kernel
theorem dX2_barBits_14 : decode cX2_barBits 14 = .ok (.iload_n 1, 1) := by decide +kernel
theorem dX2_barBits_15 : decode cX2_barBits 15 = .ok (.iload_n 3, 1) := by decide +kernel
theorem dX2_barBits_16 : decode cX2_barBits 16 = .ok (.invokevirtual 88, 3) := by decide +kernel
theorem dX2_barBits_19 : decode cX2_barBits 19 = .ok (.ifCond .eq 9, 3) := by decide +kernel
theorem dX2_barBits_22 : decode cX2_barBits 22 = .ok (.iconst 1, 1) := by decide +kernel
theorem dX2_barBits_23 : decode cX2_barBits 23 = .ok (.iload_n 3, 1) := by decide +kernel
theorem dX2_barBits_24 : decode cX2_barBits 24 = .ok (.ishl, 1) := by decide +kernel
theorem dX2_barBits_25 : decode cX2_barBits 25 = .ok (.goto 4, 3) := by decide +kernel
theorem dX2_barBits_28 : decode cX2_barBits 28 = .ok (.iconst 0, 1) := by decide +kernel
theorem dX2_barBits_29 : decode cX2_barBits 29 = .ok (.ior, 1) := by decide +kernel
theorem dX2_barBits_30 : decode cX2_barBits 30 = .ok (.istore_n 2, 1) := by decide +kernel
theorem dX2_barBits_31 : decode cX2_barBits 31 = .ok (.iinc 3 1, 3) := by decide +kernel
theorem dX2_barBits_34 : decode cX2_barBits 34 = .ok (.goto (-30), 3) := by decide +kernel
theorem dX2_barBits_37 : decode cX2_barBits 37 = .ok (.iload_n 2, 1) := by decide +kernel
theorem dX2_barBits_38 : decode cX2_barBits 38 = .ok (.ireturn, 1) := by decide +kernel
theorem dX2_writeBars_0 : decode cX2_writeBars 0 = .ok (.iconst 0, 1) := by decide +kernel
theorem dX2_writeBars_1 : decode cX2_writeBars 1 = .ok (.istore_n 2, 1) := by decide +kernel
theorem dX2_writeBars_2 : decode cX2_writeBars 2 = .ok (.iload_n 2, 1) := by decide +kernel
theorem dX2_writeBars_3 : decode cX2_writeBars 3 = .ok (.aload_n 1, 1) := by decide +kernel
theorem dX2_writeBars_4 : decode cX2_writeBars 4 = .ok (.arraylength, 1) := by decide +kernel
theorem dX2_writeBars_5 : decode cX2_writeBars 5 = .ok (.if_icmp .ge 17, 3) := by decide +kernel
theorem dX2_writeBars_8 : decode cX2_writeBars 8 = .ok (.aload_n 1, 1) := by decide +kernel
theorem dX2_writeBars_9 : decode cX2_writeBars 9 = .ok (.iload_n 2, 1) := by decide +kernel
theorem dX2_writeBars_10 : decode cX2_writeBars 10 = .ok (.aload_n 0, 1) := by decide +kernel
theorem dX2_writeBars_11 : decode cX2_writeBars 11 = .ok (.iload_n 2, 1) := by decide +kernel
theorem dX2_writeBars_12 : decode cX2_writeBars 12 = .ok (.invokevirtual 91, 3) := by decide +kernel
theorem dX2_writeBars_15 : decode cX2_writeBars 15 = .ok (.iastore, 1) := by decide +kernel
theorem dX2_writeBars_16 : decode cX2_writeBars 16 = .ok (.iinc 2 1, 3) := by decide +kernel
theorem dX2_writeBars_19 : decode cX2_writeBars 19 = .ok (.goto (-17), 3) := by decide +kernel
theorem dX2_writeBars_22 : decode cX2_writeBars 22 = .ok (.return_, 1) := by decide +kernel
theorem dX2_barWithin_0 : decode cX2_barWithin 0 = .ok (.iconst 0, 1) := by decide +kernel
theorem dX2_barWithin_1 : decode cX2_barWithin 1 = .ok (.istore_n 2, 1) := by decide +kernel
theorem dX2_barWithin_2 : decode cX2_barWithin 2 = .ok (.iload_n 2, 1) := by decide +kernel
theorem dX2_barWithin_3 : decode cX2_barWithin 3 = .ok (.aload_n 0, 1) := by decide +kernel
theorem dX2_barWithin_4 : decode cX2_barWithin 4 = .ok (.getfield 9, 3) := by decide +kernel
theorem dX2_barWithin_7 : decode cX2_barWithin 7 = .ok (.if_icmp .ge 30, 3) := by decide +kernel
theorem dX2_barWithin_10 : decode cX2_barWithin 10 = .ok (.iload_n 1, 1) := by decide +kernel
theorem dX2_barWithin_11 : decode cX2_barWithin 11 = .ok (.iload_n 2, 1) := by decide +kernel
theorem dX2_barWithin_12 : decode cX2_barWithin 12 = .ok (.ishr, 1) := by decide +kernel
theorem dX2_barWithin_13 : decode cX2_barWithin 13 = .ok (.iconst 1, 1) := by decide +kernel
theorem dX2_barWithin_14 : decode cX2_barWithin 14 = .ok (.iand, 1) := by decide +kernel
theorem dX2_barWithin_15 : decode cX2_barWithin 15 = .ok (.iconst 1, 1) := by decide +kernel
theorem dX2_barWithin_16 : decode cX2_barWithin 16 = .ok (.if_icmp .ne 15, 3) := by decide +kernel
theorem dX2_barWithin_19 : decode cX2_barWithin 19 = .ok (.aload_n 0, 1) := by decide +kernel
theorem dX2_barWithin_20 : decode cX2_barWithin 20 = .ok (.iload_n 2, 1) := by decide +kernel
theorem dX2_barWithin_21 : decode cX2_barWithin 21 = .ok (.invokevirtual 91, 3) := by decide +kernel
theorem dX2_barWithin_24 : decode cX2_barWithin 24 = .ok (.iload_n 1, 1) := by decide +kernel
theorem dX2_barWithin_25 : decode cX2_barWithin 25 = .ok (.iand, 1) := by decide +kernel
theorem dX2_barWithin_26 : decode cX2_barWithin 26 = .ok (.ifCond .eq 5, 3) := by decide +kernel
theorem dX2_barWithin_29 : decode cX2_barWithin 29 = .ok (.iconst 1, 1) := by decide +kernel
theorem dX2_barWithin_30 : decode cX2_barWithin 30 = .ok (.ireturn, 1) := by decide +kernel
theorem dX2_barWithin_31 : decode cX2_barWithin 31 = .ok (.iinc 2 1, 3) := by decide +kernel
theorem dX2_barWithin_34 : decode cX2_barWithin 34 = .ok (.goto (-32), 3) := by decide +kernel
theorem dX2_barWithin_37 : decode cX2_barWithin 37 = .ok (.iconst 0, 1) := by decide +kernel
theorem dX2_barWithin_38 : decode cX2_barWithin 38 = .ok (.ireturn, 1) := by decide +kernel
theorem dX2_asOne_0 : decode cX2_asOne 0 = .ok (.aload_n 0, 1) := by decide +kernel
theorem dX2_asOne_1 : decode cX2_asOne 1 = .ok (.iload_n 1, 1) := by decide +kernel
theorem dX2_asOne_2 : decode cX2_asOne 2 = .ok (.invokevirtual 50, 3) := by decide +kernel
theorem dX2_asOne_5 : decode cX2_asOne 5 = .ok (.ifCond .eq 11, 3) := by decide +kernel
theorem dX2_asOne_8 : decode cX2_asOne 8 = .ok (.aload_n 0, 1) := by decide +kernel
theorem dX2_asOne_9 : decode cX2_asOne 9 = .ok (.iload_n 2, 1) := by decide +kernel
theorem dX2_asOne_10 : decode cX2_asOne 10 = .ok (.invokevirtual 50, 3) := by decide +kernel
theorem dX2_asOne_13 : decode cX2_asOne 13 = .ok (.ifCond .ne 5, 3) := by decide +kernel
theorem dX2_asOne_16 : decode cX2_asOne 16 = .ok (.iconst 0, 1) := by decide +kernel
theorem dX2_asOne_17 : decode cX2_asOne 17 = .ok (.ireturn, 1) := by decide +kernel
theorem dX2_asOne_18 : decode cX2_asOne 18 = .ok (.iload_n 1, 1) := by decide +kernel
theorem dX2_asOne_19 : decode cX2_asOne 19 = .ok (.iload_n 2, 1) := by decide +kernel
theorem dX2_asOne_20 : decode cX2_asOne 20 = .ok (.if_icmp .eq 30, 3) := by decide +kernel
theorem dX2_asOne_23 : decode cX2_asOne 23 = .ok (.aload_n 0, 1) := by decide +kernel
theorem dX2_asOne_24 : decode cX2_asOne 24 = .ok (.getfield 22, 3) := by decide +kernel
theorem dX2_asOne_27 : decode cX2_asOne 27 = .ok (.ifCond .eq 27, 3) := by decide +kernel
theorem dX2_asOne_30 : decode cX2_asOne 30 = .ok (.aload_n 0, 1) := by decide +kernel
theorem dX2_asOne_31 : decode cX2_asOne 31 = .ok (.getfield 38, 3) := by decide +kernel
theorem dX2_asOne_34 : decode cX2_asOne 34 = .ok (.iload_n 1, 1) := by decide +kernel
theorem dX2_asOne_35 : decode cX2_asOne 35 = .ok (.iaload, 1) := by decide +kernel
theorem dX2_asOne_36 : decode cX2_asOne 36 = .ok (.iload_n 2, 1) := by decide +kernel
theorem dX2_asOne_37 : decode cX2_asOne 37 = .ok (.if_icmp .eq 13, 3) := by decide +kernel
theorem dX2_asOne_40 : decode cX2_asOne 40 = .ok (.aload_n 0, 1) := by decide +kernel
theorem dX2_asOne_41 : decode cX2_asOne 41 = .ok (.getfield 38, 3) := by decide +kernel
theorem dX2_asOne_44 : decode cX2_asOne 44 = .ok (.iload_n 2, 1) := by decide +kernel
theorem dX2_asOne_45 : decode cX2_asOne 45 = .ok (.iaload, 1) := by decide +kernel
theorem dX2_asOne_46 : decode cX2_asOne 46 = .ok (.iload_n 1, 1) := by decide +kernel
theorem dX2_asOne_47 : decode cX2_asOne 47 = .ok (.if_icmp .ne 7, 3) := by decide +kernel
theorem dX2_asOne_50 : decode cX2_asOne 50 = .ok (.iconst 1, 1) := by decide +kernel
theorem dX2_asOne_51 : decode cX2_asOne 51 = .ok (.goto 4, 3) := by decide +kernel
theorem dX2_asOne_54 : decode cX2_asOne 54 = .ok (.iconst 0, 1) := by decide +kernel
theorem dX2_asOne_55 : decode cX2_asOne 55 = .ok (.ireturn, 1) := by decide +kernel
theorem dX2_isLawful_0 : decode cX2_isLawful 0 = .ok (.aload_n 0, 1) := by decide +kernel
theorem dX2_isLawful_1 : decode cX2_isLawful 1 = .ok (.iconst 0, 1) := by decide +kernel
theorem dX2_isLawful_2 : decode cX2_isLawful 2 = .ok (.invokevirtual 94, 3) := by decide +kernel
theorem dX2_isLawful_5 : decode cX2_isLawful 5 = .ok (.bipush (-4), 2) := by decide +kernel
theorem dX2_isLawful_7 : decode cX2_isLawful 7 = .ok (.if_icmp .ne 7, 3) := by decide +kernel
theorem dX2_isLawful_10 : decode cX2_isLawful 10 = .ok (.iconst 1, 1) := by decide +kernel
theorem dX2_isLawful_11 : decode cX2_isLawful 11 = .ok (.goto 4, 3) := by decide +kernel
theorem dX2_isLawful_14 : decode cX2_isLawful 14 = .ok (.iconst 0, 1) := by decide +kernel
theorem dX2_isLawful_15 : decode cX2_isLawful 15 = .ok (.ireturn, 1) := by decide +kernel
theorem dX2_firstOffence_0 : decode cX2_firstOffence 0 = .ok (.iconst 0, 1) := by decide +kernel
theorem dX2_firstOffence_1 : decode cX2_firstOffence 1 = .ok (.istore_n 2, 1) := by decide +kernel
theorem dX2_firstOffence_2 : decode cX2_firstOffence 2 = .ok (.iload_n 2, 1) := by decide +kernel
theorem dX2_firstOffence_3 : decode cX2_firstOffence 3 = .ok (.aload_n 0, 1) := by decide +kernel
theorem dX2_firstOffence_4 : decode cX2_firstOffence 4 = .ok (.getfield 9, 3) := by decide +kernel
theorem dX2_firstOffence_7 : decode cX2_firstOffence 7 = .ok (.if_icmp .ge 90, 3) := by decide +kernel
theorem dX2_firstOffence_10 : decode cX2_firstOffence 10 = .ok (.iload_n 2, 1) := by decide +kernel
theorem dX2_firstOffence_11 : decode cX2_firstOffence 11 = .ok (.iconst 1, 1) := by decide +kernel
theorem dX2_firstOffence_12 : decode cX2_firstOffence 12 = .ok (.iadd, 1) := by decide +kernel
theorem dX2_firstOffence_13 : decode cX2_firstOffence 13 = .ok (.istore_n 3, 1) := by decide +kernel
theorem dX2_firstOffence_14 : decode cX2_firstOffence 14 = .ok (.iload_n 3, 1) := by decide +kernel
theorem dX2_firstOffence_15 : decode cX2_firstOffence 15 = .ok (.aload_n 0, 1) := by decide +kernel
theorem dX2_firstOffence_16 : decode cX2_firstOffence 16 = .ok (.getfield 9, 3) := by decide +kernel
theorem dX2_firstOffence_19 : decode cX2_firstOffence 19 = .ok (.if_icmp .ge 72, 3) := by decide +kernel
theorem dX2_firstOffence_22 : decode cX2_firstOffence 22 = .ok (.iload_n 1, 1) := by decide +kernel
theorem dX2_firstOffence_23 : decode cX2_firstOffence 23 = .ok (.iload_n 2, 1) := by decide +kernel
theorem dX2_firstOffence_24 : decode cX2_firstOffence 24 = .ok (.ishr, 1) := by decide +kernel
theorem dX2_firstOffence_25 : decode cX2_firstOffence 25 = .ok (.iconst 1, 1) := by decide +kernel
theorem dX2_firstOffence_26 : decode cX2_firstOffence 26 = .ok (.iand, 1) := by decide +kernel
theorem dX2_firstOffence_27 : decode cX2_firstOffence 27 = .ok (.iconst 1, 1) := by decide +kernel
theorem dX2_firstOffence_28 : decode cX2_firstOffence 28 = .ok (.if_icmp .eq 12, 3) := by decide +kernel
theorem dX2_firstOffence_31 : decode cX2_firstOffence 31 = .ok (.iload_n 1, 1) := by decide +kernel
theorem dX2_firstOffence_32 : decode cX2_firstOffence 32 = .ok (.iload_n 3, 1) := by decide +kernel
theorem dX2_firstOffence_33 : decode cX2_firstOffence 33 = .ok (.ishr, 1) := by decide +kernel
theorem dX2_firstOffence_34 : decode cX2_firstOffence 34 = .ok (.iconst 1, 1) := by decide +kernel
theorem dX2_firstOffence_35 : decode cX2_firstOffence 35 = .ok (.iand, 1) := by decide +kernel
theorem dX2_firstOffence_36 : decode cX2_firstOffence 36 = .ok (.iconst 1, 1) := by decide +kernel
theorem dX2_firstOffence_37 : decode cX2_firstOffence 37 = .ok (.if_icmp .ne 7, 3) := by decide +kernel
theorem dX2_firstOffence_40 : decode cX2_firstOffence 40 = .ok (.iconst 1, 1) := by decide +kernel
theorem dX2_firstOffence_41 : decode cX2_firstOffence 41 = .ok (.goto 4, 3) := by decide +kernel
theorem dX2_firstOffence_44 : decode cX2_firstOffence 44 = .ok (.iconst 0, 1) := by decide +kernel
theorem dX2_firstOffence_45 : decode cX2_firstOffence 45 = .ok (.istore 4, 2) := by decide +kernel
theorem dX2_firstOffence_47 : decode cX2_firstOffence 47 = .ok (.iload 4, 2) := by decide +kernel
theorem dX2_firstOffence_49 : decode cX2_firstOffence 49 = .ok (.ifCond .ne 36, 3) := by decide +kernel
theorem dX2_firstOffence_52 : decode cX2_firstOffence 52 = .ok (.aload_n 0, 1) := by decide +kernel
theorem dX2_firstOffence_53 : decode cX2_firstOffence 53 = .ok (.iload_n 2, 1) := by decide +kernel
theorem dX2_firstOffence_54 : decode cX2_firstOffence 54 = .ok (.iload_n 3, 1) := by decide +kernel
theorem dX2_firstOffence_55 : decode cX2_firstOffence 55 = .ok (.invokevirtual 88, 3) := by decide +kernel
theorem dX2_firstOffence_58 : decode cX2_firstOffence 58 = .ok (.ifCond .eq 27, 3) := by decide +kernel
theorem dX2_firstOffence_61 : decode cX2_firstOffence 61 = .ok (.aload_n 0, 1) := by decide +kernel
theorem dX2_firstOffence_62 : decode cX2_firstOffence 62 = .ok (.aload_n 0, 1) := by decide +kernel
theorem dX2_firstOffence_63 : decode cX2_firstOffence 63 = .ok (.iload_n 2, 1) := by decide +kernel
theorem dX2_firstOffence_64 : decode cX2_firstOffence 64 = .ok (.invokevirtual 97, 3) := by decide +kernel
theorem dX2_firstOffence_67 : decode cX2_firstOffence 67 = .ok (.aload_n 0, 1) := by decide +kernel
theorem dX2_firstOffence_68 : decode cX2_firstOffence 68 = .ok (.iload_n 3, 1) := by decide +kernel
theorem dX2_firstOffence_69 : decode cX2_firstOffence 69 = .ok (.invokevirtual 97, 3) := by decide +kernel
theorem dX2_firstOffence_72 : decode cX2_firstOffence 72 = .ok (.invokevirtual 100, 3) := by decide +kernel
theorem dX2_firstOffence_75 : decode cX2_firstOffence 75 = .ok (.ifCond .eq 10, 3) := by decide +kernel
theorem dX2_firstOffence_78 : decode cX2_firstOffence 78 = .ok (.bipush 10, 2) := by decide +kernel
theorem dX2_firstOffence_80 : decode cX2_firstOffence 80 = .ok (.iload_n 2, 1) := by decide +kernel
theorem dX2_firstOffence_81 : decode cX2_firstOffence 81 = .ok (.imul, 1) := by decide +kernel
theorem dX2_firstOffence_82 : decode cX2_firstOffence 82 = .ok (.iload_n 3, 1) := by decide +kernel
theorem dX2_firstOffence_83 : decode cX2_firstOffence 83 = .ok (.iadd, 1) := by decide +kernel
theorem dX2_firstOffence_84 : decode cX2_firstOffence 84 = .ok (.ireturn, 1) := by decide +kernel
theorem dX2_firstOffence_85 : decode cX2_firstOffence 85 = .ok (.iinc 3 1, 3) := by decide +kernel
theorem dX2_firstOffence_88 : decode cX2_firstOffence 88 = .ok (.goto (-74), 3) := by decide +kernel
theorem dX2_firstOffence_91 : decode cX2_firstOffence 91 = .ok (.iinc 2 1, 3) := by decide +kernel
theorem dX2_firstOffence_94 : decode cX2_firstOffence 94 = .ok (.goto (-92), 3) := by decide +kernel
theorem dX2_firstOffence_97 : decode cX2_firstOffence 97 = .ok (.bipush (-4), 2) := by decide +kernel
theorem dX2_firstOffence_99 : decode cX2_firstOffence 99 = .ok (.ireturn, 1) := by decide +kernel
theorem dX2_fieldBits_0 : decode cX2_fieldBits 0 = .ok (.iconst 0, 1) := by decide +kernel
theorem dX2_fieldBits_1 : decode cX2_fieldBits 1 = .ok (.istore_n 2, 1) := by decide +kernel
theorem dX2_fieldBits_2 : decode cX2_fieldBits 2 = .ok (.iconst 0, 1) := by decide +kernel
theorem dX2_fieldBits_3 : decode cX2_fieldBits 3 = .ok (.istore_n 3, 1) := by decide +kernel
theorem dX2_fieldBits_4 : decode cX2_fieldBits 4 = .ok (.iload_n 3, 1) := by decide +kernel
theorem dX2_fieldBits_5 : decode cX2_fieldBits 5 = .ok (.aload_n 0, 1) := by decide +kernel
theorem dX2_fieldBits_6 : decode cX2_fieldBits 6 = .ok (.getfield 9, 3) := by decide +kernel
theorem dX2_fieldBits_9 : decode cX2_fieldBits 9 = .ok (.if_icmp .ge 28, 3) := by decide +kernel
theorem dX2_fieldBits_12 : decode cX2_fieldBits 12 = .ok (.iload_n 2, 1) := by decide +kernel
theorem dX2_fieldBits_13 : decode cX2_fieldBits 13 = .ok (.aload_n 0, 1) := by decide +kernel
theorem dX2_fieldBits_14 : decode cX2_fieldBits 14 = .ok (.iload_n 3, 1) := by decide +kernel
theorem dX2_fieldBits_15 : decode cX2_fieldBits 15 = .ok (.invokevirtual 97, 3) := by decide +kernel
theorem dX2_fieldBits_18 : decode cX2_fieldBits 18 = .ok (.iload_n 1, 1) := by decide +kernel
theorem dX2_fieldBits_19 : decode cX2_fieldBits 19 = .ok (.if_icmp .ne 9, 3) := by decide +kernel
theorem dX2_fieldBits_22 : decode cX2_fieldBits 22 = .ok (.iconst 1, 1) := by decide +kernel
theorem dX2_fieldBits_23 : decode cX2_fieldBits 23 = .ok (.iload_n 3, 1) := by decide +kernel
theorem dX2_fieldBits_24 : decode cX2_fieldBits 24 = .ok (.ishl, 1) := by decide +kernel
theorem dX2_fieldBits_25 : decode cX2_fieldBits 25 = .ok (.goto 4, 3) := by decide +kernel
theorem dX2_fieldBits_28 : decode cX2_fieldBits 28 = .ok (.iconst 0, 1) := by decide +kernel
theorem dX2_fieldBits_29 : decode cX2_fieldBits 29 = .ok (.ior, 1) := by decide +kernel
theorem dX2_fieldBits_30 : decode cX2_fieldBits 30 = .ok (.istore_n 2, 1) := by decide +kernel
theorem dX2_fieldBits_31 : decode cX2_fieldBits 31 = .ok (.iinc 3 1, 3) := by decide +kernel
theorem dX2_fieldBits_34 : decode cX2_fieldBits 34 = .ok (.goto (-30), 3) := by decide +kernel
theorem dX2_fieldBits_37 : decode cX2_fieldBits 37 = .ok (.iload_n 2, 1) := by decide +kernel
theorem dX2_fieldBits_38 : decode cX2_fieldBits 38 = .ok (.ireturn, 1) := by decide +kernel
theorem dX2_worthOfBits_0 : decode cX2_worthOfBits 0 = .ok (.iconst 0, 1) := by decide +kernel
theorem dX2_worthOfBits_1 : decode cX2_worthOfBits 1 = .ok (.istore_n 3, 1) := by decide +kernel
theorem dX2_worthOfBits_2 : decode cX2_worthOfBits 2 = .ok (.iconst 0, 1) := by decide +kernel
theorem dX2_worthOfBits_3 : decode cX2_worthOfBits 3 = .ok (.istore 4, 2) := by decide +kernel
theorem dX2_worthOfBits_5 : decode cX2_worthOfBits 5 = .ok (.iload 4, 2) := by decide +kernel
theorem dX2_worthOfBits_7 : decode cX2_worthOfBits 7 = .ok (.aload_n 0, 1) := by decide +kernel
theorem dX2_worthOfBits_8 : decode cX2_worthOfBits 8 = .ok (.getfield 9, 3) := by decide +kernel
theorem dX2_worthOfBits_11 : decode cX2_worthOfBits 11 = .ok (.if_icmp .ge 33, 3) := by decide +kernel
theorem dX2_worthOfBits_14 : decode cX2_worthOfBits 14 = .ok (.iload_n 3, 1) := by decide +kernel
theorem dX2_worthOfBits_15 : decode cX2_worthOfBits 15 = .ok (.iload_n 2, 1) := by decide +kernel
theorem dX2_worthOfBits_16 : decode cX2_worthOfBits 16 = .ok (.iload 4, 2) := by decide +kernel
theorem dX2_worthOfBits_18 : decode cX2_worthOfBits 18 = .ok (.ishr, 1) := by decide +kernel
theorem dX2_worthOfBits_19 : decode cX2_worthOfBits 19 = .ok (.iconst 1, 1) := by decide +kernel
theorem dX2_worthOfBits_20 : decode cX2_worthOfBits 20 = .ok (.iand, 1) := by decide +kernel
theorem dX2_worthOfBits_21 : decode cX2_worthOfBits 21 = .ok (.iconst 1, 1) := by decide +kernel
theorem dX2_worthOfBits_22 : decode cX2_worthOfBits 22 = .ok (.if_icmp .ne 13, 3) := by decide +kernel
theorem dX2_worthOfBits_25 : decode cX2_worthOfBits 25 = .ok (.aload_n 0, 1) := by decide +kernel
theorem dX2_worthOfBits_26 : decode cX2_worthOfBits 26 = .ok (.iload_n 1, 1) := by decide +kernel
theorem dX2_worthOfBits_27 : decode cX2_worthOfBits 27 = .ok (.iload 4, 2) := by decide +kernel
theorem dX2_worthOfBits_29 : decode cX2_worthOfBits 29 = .ok (.invokevirtual 103, 3) := by decide +kernel
theorem dX2_worthOfBits_32 : decode cX2_worthOfBits 32 = .ok (.goto 4, 3) := by decide +kernel
theorem dX2_worthOfBits_35 : decode cX2_worthOfBits 35 = .ok (.iconst 0, 1) := by decide +kernel
theorem dX2_worthOfBits_36 : decode cX2_worthOfBits 36 = .ok (.iadd, 1) := by decide +kernel
theorem dX2_worthOfBits_37 : decode cX2_worthOfBits 37 = .ok (.istore_n 3, 1) := by decide +kernel
theorem dX2_worthOfBits_38 : decode cX2_worthOfBits 38 = .ok (.iinc 4 1, 3) := by decide +kernel
theorem dX2_worthOfBits_41 : decode cX2_worthOfBits 41 = .ok (.goto (-36), 3) := by decide +kernel
theorem dX2_worthOfBits_44 : decode cX2_worthOfBits 44 = .ok (.iload_n 3, 1) := by decide +kernel
theorem dX2_worthOfBits_45 : decode cX2_worthOfBits 45 = .ok (.ireturn, 1) := by decide +kernel
theorem dX2_worthOwned_0 : decode cX2_worthOwned 0 = .ok (.aload_n 0, 1) := by decide +kernel
theorem dX2_worthOwned_1 : decode cX2_worthOwned 1 = .ok (.iload_n 1, 1) := by decide +kernel
theorem dX2_worthOwned_2 : decode cX2_worthOwned 2 = .ok (.aload_n 0, 1) := by decide +kernel
theorem dX2_worthOwned_3 : decode cX2_worthOwned 3 = .ok (.iload_n 1, 1) := by decide +kernel
theorem dX2_worthOwned_4 : decode cX2_worthOwned 4 = .ok (.invokevirtual 106, 3) := by decide +kernel
theorem dX2_worthOwned_7 : decode cX2_worthOwned 7 = .ok (.invokevirtual 109, 3) := by decide +kernel
theorem dX2_worthOwned_10 : decode cX2_worthOwned 10 = .ok (.ireturn, 1) := by decide +kernel
theorem dX2_worthToOwners_0 : decode cX2_worthToOwners 0 = .ok (.iconst 0, 1) := by decide +kernel
theorem dX2_worthToOwners_1 : decode cX2_worthToOwners 1 = .ok (.istore_n 2, 1) := by decide +kernel
theorem dX2_worthToOwners_2 : decode cX2_worthToOwners 2 = .ok (.iconst 0, 1) := by decide +kernel
theorem dX2_worthToOwners_3 : decode cX2_worthToOwners 3 = .ok (.istore_n 3, 1) := by decide +kernel
theorem dX2_worthToOwners_4 : decode cX2_worthToOwners 4 = .ok (.iload_n 3, 1) := by decide +kernel
theorem dX2_worthToOwners_5 : decode cX2_worthToOwners 5 = .ok (.aload_n 0, 1) := by decide +kernel
theorem dX2_worthToOwners_6 : decode cX2_worthToOwners 6 = .ok (.getfield 9, 3) := by decide +kernel
theorem dX2_worthToOwners_9 : decode cX2_worthToOwners 9 = .ok (.if_icmp .ge 35, 3) := by decide +kernel
theorem dX2_worthToOwners_12 : decode cX2_worthToOwners 12 = .ok (.iload_n 2, 1) := by decide +kernel
theorem dX2_worthToOwners_13 : decode cX2_worthToOwners 13 = .ok (.iload_n 1, 1) := by decide +kernel
theorem dX2_worthToOwners_14 : decode cX2_worthToOwners 14 = .ok (.iload_n 3, 1) := by decide +kernel
theorem dX2_worthToOwners_15 : decode cX2_worthToOwners 15 = .ok (.ishr, 1) := by decide +kernel
theorem dX2_worthToOwners_16 : decode cX2_worthToOwners 16 = .ok (.iconst 1, 1) := by decide +kernel
theorem dX2_worthToOwners_17 : decode cX2_worthToOwners 17 = .ok (.iand, 1) := by decide +kernel
theorem dX2_worthToOwners_18 : decode cX2_worthToOwners 18 = .ok (.iconst 1, 1) := by decide +kernel
theorem dX2_worthToOwners_19 : decode cX2_worthToOwners 19 = .ok (.if_icmp .ne 16, 3) := by decide +kernel
theorem dX2_worthToOwners_22 : decode cX2_worthToOwners 22 = .ok (.aload_n 0, 1) := by decide +kernel
theorem dX2_worthToOwners_23 : decode cX2_worthToOwners 23 = .ok (.aload_n 0, 1) := by decide +kernel
theorem dX2_worthToOwners_24 : decode cX2_worthToOwners 24 = .ok (.iload_n 3, 1) := by decide +kernel
theorem dX2_worthToOwners_25 : decode cX2_worthToOwners 25 = .ok (.invokevirtual 97, 3) := by decide +kernel
theorem dX2_worthToOwners_28 : decode cX2_worthToOwners 28 = .ok (.iload_n 3, 1) := by decide +kernel
theorem dX2_worthToOwners_29 : decode cX2_worthToOwners 29 = .ok (.invokevirtual 103, 3) := by decide +kernel
theorem dX2_worthToOwners_32 : decode cX2_worthToOwners 32 = .ok (.goto 4, 3) := by decide +kernel
theorem dX2_worthToOwners_35 : decode cX2_worthToOwners 35 = .ok (.iconst 0, 1) := by decide +kernel
theorem dX2_worthToOwners_36 : decode cX2_worthToOwners 36 = .ok (.iadd, 1) := by decide +kernel
theorem dX2_worthToOwners_37 : decode cX2_worthToOwners 37 = .ok (.istore_n 2, 1) := by decide +kernel
theorem dX2_worthToOwners_38 : decode cX2_worthToOwners 38 = .ok (.iinc 3 1, 3) := by decide +kernel
theorem dX2_worthToOwners_41 : decode cX2_worthToOwners 41 = .ok (.goto (-37), 3) := by decide +kernel
theorem dX2_worthToOwners_44 : decode cX2_worthToOwners 44 = .ok (.iload_n 2, 1) := by decide +kernel
theorem dX2_worthToOwners_45 : decode cX2_worthToOwners 45 = .ok (.ireturn, 1) := by decide +kernel
theorem dX2_greatestWorth_0 : decode cX2_greatestWorth 0 = .ok (.iconst 0, 1) := by decide +kernel
theorem dX2_greatestWorth_1 : decode cX2_greatestWorth 1 = .ok (.istore_n 2, 1) := by decide +kernel
theorem dX2_greatestWorth_2 : decode cX2_greatestWorth 2 = .ok (.iconst 0, 1) := by decide +kernel
theorem dX2_greatestWorth_3 : decode cX2_greatestWorth 3 = .ok (.istore_n 3, 1) := by decide +kernel
theorem dX2_greatestWorth_4 : decode cX2_greatestWorth 4 = .ok (.iload_n 3, 1) := by decide +kernel
theorem dX2_greatestWorth_5 : decode cX2_greatestWorth 5 = .ok (.aload_n 0, 1) := by decide +kernel
theorem dX2_greatestWorth_6 : decode cX2_greatestWorth 6 = .ok (.getfield 15, 3) := by decide +kernel
theorem dX2_greatestWorth_9 : decode cX2_greatestWorth 9 = .ok (.if_icmp .ge 20, 3) := by decide +kernel
theorem dX2_greatestWorth_12 : decode cX2_greatestWorth 12 = .ok (.iload_n 2, 1) := by decide +kernel
theorem dX2_greatestWorth_13 : decode cX2_greatestWorth 13 = .ok (.aload_n 0, 1) := by decide +kernel
theorem dX2_greatestWorth_14 : decode cX2_greatestWorth 14 = .ok (.iload_n 3, 1) := by decide +kernel
theorem dX2_greatestWorth_15 : decode cX2_greatestWorth 15 = .ok (.iload_n 1, 1) := by decide +kernel
theorem dX2_greatestWorth_16 : decode cX2_greatestWorth 16 = .ok (.invokevirtual 103, 3) := by decide +kernel
theorem dX2_greatestWorth_19 : decode cX2_greatestWorth 19 = .ok (.invokestatic 112, 3) := by decide +kernel
theorem dX2_greatestWorth_22 : decode cX2_greatestWorth 22 = .ok (.istore_n 2, 1) := by decide +kernel
theorem dX2_greatestWorth_23 : decode cX2_greatestWorth 23 = .ok (.iinc 3 1, 3) := by decide +kernel
theorem dX2_greatestWorth_26 : decode cX2_greatestWorth 26 = .ok (.goto (-22), 3) := by decide +kernel
theorem dX2_greatestWorth_29 : decode cX2_greatestWorth 29 = .ok (.iload_n 2, 1) := by decide +kernel
theorem dX2_greatestWorth_30 : decode cX2_greatestWorth 30 = .ok (.ireturn, 1) := by decide +kernel
theorem dX2_allAcres_0 : decode cX2_allAcres 0 = .ok (.iconst 0, 1) := by decide +kernel
theorem dX2_allAcres_1 : decode cX2_allAcres 1 = .ok (.istore_n 1, 1) := by decide +kernel
theorem dX2_allAcres_2 : decode cX2_allAcres 2 = .ok (.iconst 0, 1) := by decide +kernel
theorem dX2_allAcres_3 : decode cX2_allAcres 3 = .ok (.istore_n 2, 1) := by decide +kernel
theorem dX2_allAcres_4 : decode cX2_allAcres 4 = .ok (.iload_n 2, 1) := by decide +kernel
theorem dX2_allAcres_5 : decode cX2_allAcres 5 = .ok (.aload_n 0, 1) := by decide +kernel
theorem dX2_allAcres_6 : decode cX2_allAcres 6 = .ok (.getfield 9, 3) := by decide +kernel
theorem dX2_allAcres_9 : decode cX2_allAcres 9 = .ok (.if_icmp .ge 17, 3) := by decide +kernel
theorem dX2_allAcres_12 : decode cX2_allAcres 12 = .ok (.iload_n 1, 1) := by decide +kernel
theorem dX2_allAcres_13 : decode cX2_allAcres 13 = .ok (.aload_n 0, 1) := by decide +kernel
theorem dX2_allAcres_14 : decode cX2_allAcres 14 = .ok (.iload_n 2, 1) := by decide +kernel
theorem dX2_allAcres_15 : decode cX2_allAcres 15 = .ok (.invokevirtual 64, 3) := by decide +kernel
theorem dX2_allAcres_18 : decode cX2_allAcres 18 = .ok (.iadd, 1) := by decide +kernel
theorem dX2_allAcres_19 : decode cX2_allAcres 19 = .ok (.istore_n 1, 1) := by decide +kernel
theorem dX2_allAcres_20 : decode cX2_allAcres 20 = .ok (.iinc 2 1, 3) := by decide +kernel
theorem dX2_allAcres_23 : decode cX2_allAcres 23 = .ok (.goto (-19), 3) := by decide +kernel
theorem dX2_allAcres_26 : decode cX2_allAcres 26 = .ok (.iload_n 1, 1) := by decide +kernel
theorem dX2_allAcres_27 : decode cX2_allAcres 27 = .ok (.ireturn, 1) := by decide +kernel
theorem dX2_ownedCount_0 : decode cX2_ownedCount 0 = .ok (.iconst 0, 1) := by decide +kernel
theorem dX2_ownedCount_1 : decode cX2_ownedCount 1 = .ok (.istore_n 1, 1) := by decide +kernel
theorem dX2_ownedCount_2 : decode cX2_ownedCount 2 = .ok (.iconst 0, 1) := by decide +kernel
theorem dX2_ownedCount_3 : decode cX2_ownedCount 3 = .ok (.istore_n 2, 1) := by decide +kernel
theorem dX2_ownedCount_4 : decode cX2_ownedCount 4 = .ok (.iload_n 2, 1) := by decide +kernel
theorem dX2_ownedCount_5 : decode cX2_ownedCount 5 = .ok (.aload_n 0, 1) := by decide +kernel
theorem dX2_ownedCount_6 : decode cX2_ownedCount 6 = .ok (.getfield 9, 3) := by decide +kernel
theorem dX2_ownedCount_9 : decode cX2_ownedCount 9 = .ok (.if_icmp .ge 27, 3) := by decide +kernel
theorem dX2_ownedCount_12 : decode cX2_ownedCount 12 = .ok (.iload_n 1, 1) := by decide +kernel
theorem dX2_ownedCount_13 : decode cX2_ownedCount 13 = .ok (.aload_n 0, 1) := by decide +kernel
theorem dX2_ownedCount_14 : decode cX2_ownedCount 14 = .ok (.iload_n 2, 1) := by decide +kernel
theorem dX2_ownedCount_15 : decode cX2_ownedCount 15 = .ok (.invokevirtual 97, 3) := by decide +kernel
theorem dX2_ownedCount_18 : decode cX2_ownedCount 18 = .ok (.bipush 9, 2) := by decide +kernel
theorem dX2_ownedCount_20 : decode cX2_ownedCount 20 = .ok (.if_icmp .ne 7, 3) := by decide +kernel
theorem dX2_ownedCount_23 : decode cX2_ownedCount 23 = .ok (.iconst 0, 1) := by decide +kernel
theorem dX2_ownedCount_24 : decode cX2_ownedCount 24 = .ok (.goto 4, 3) := by decide +kernel
theorem dX2_ownedCount_27 : decode cX2_ownedCount 27 = .ok (.iconst 1, 1) := by decide +kernel
theorem dX2_ownedCount_28 : decode cX2_ownedCount 28 = .ok (.iadd, 1) := by decide +kernel
theorem dX2_ownedCount_29 : decode cX2_ownedCount 29 = .ok (.istore_n 1, 1) := by decide +kernel
theorem dX2_ownedCount_30 : decode cX2_ownedCount 30 = .ok (.iinc 2 1, 3) := by decide +kernel
theorem dX2_ownedCount_33 : decode cX2_ownedCount 33 = .ok (.goto (-29), 3) := by decide +kernel
theorem dX2_ownedCount_36 : decode cX2_ownedCount 36 = .ok (.iload_n 1, 1) := by decide +kernel
theorem dX2_ownedCount_37 : decode cX2_ownedCount 37 = .ok (.ireturn, 1) := by decide +kernel
theorem dX2_touchCount_0 : decode cX2_touchCount 0 = .ok (.iconst 0, 1) := by decide +kernel
theorem dX2_touchCount_1 : decode cX2_touchCount 1 = .ok (.istore_n 2, 1) := by decide +kernel
theorem dX2_touchCount_2 : decode cX2_touchCount 2 = .ok (.iconst 0, 1) := by decide +kernel
theorem dX2_touchCount_3 : decode cX2_touchCount 3 = .ok (.istore_n 3, 1) := by decide +kernel
theorem dX2_touchCount_4 : decode cX2_touchCount 4 = .ok (.iload_n 3, 1) := by decide +kernel
theorem dX2_touchCount_5 : decode cX2_touchCount 5 = .ok (.aload_n 0, 1) := by decide +kernel
theorem dX2_touchCount_6 : decode cX2_touchCount 6 = .ok (.getfield 9, 3) := by decide +kernel
theorem dX2_touchCount_9 : decode cX2_touchCount 9 = .ok (.if_icmp .ge 48, 3) := by decide +kernel
theorem dX2_touchCount_12 : decode cX2_touchCount 12 = .ok (.iload_n 3, 1) := by decide +kernel
theorem dX2_touchCount_13 : decode cX2_touchCount 13 = .ok (.iconst 1, 1) := by decide +kernel
theorem dX2_touchCount_14 : decode cX2_touchCount 14 = .ok (.iadd, 1) := by decide +kernel
theorem dX2_touchCount_15 : decode cX2_touchCount 15 = .ok (.istore 4, 2) := by decide +kernel
theorem dX2_touchCount_17 : decode cX2_touchCount 17 = .ok (.iload 4, 2) := by decide +kernel
theorem dX2_touchCount_19 : decode cX2_touchCount 19 = .ok (.aload_n 0, 1) := by decide +kernel
theorem dX2_touchCount_20 : decode cX2_touchCount 20 = .ok (.getfield 9, 3) := by decide +kernel
theorem dX2_touchCount_23 : decode cX2_touchCount 23 = .ok (.if_icmp .ge 28, 3) := by decide +kernel
theorem dX2_touchCount_26 : decode cX2_touchCount 26 = .ok (.iload_n 2, 1) := by decide +kernel
theorem dX2_touchCount_27 : decode cX2_touchCount 27 = .ok (.aload_n 0, 1) := by decide +kernel
theorem dX2_touchCount_28 : decode cX2_touchCount 28 = .ok (.iload_n 3, 1) := by decide +kernel
theorem dX2_touchCount_29 : decode cX2_touchCount 29 = .ok (.iload 4, 2) := by decide +kernel
theorem dX2_touchCount_31 : decode cX2_touchCount 31 = .ok (.invokevirtual 72, 3) := by decide +kernel
theorem dX2_touchCount_34 : decode cX2_touchCount 34 = .ok (.iload_n 1, 1) := by decide +kernel
theorem dX2_touchCount_35 : decode cX2_touchCount 35 = .ok (.if_icmp .ne 7, 3) := by decide +kernel
theorem dX2_touchCount_38 : decode cX2_touchCount 38 = .ok (.iconst 1, 1) := by decide +kernel
theorem dX2_touchCount_39 : decode cX2_touchCount 39 = .ok (.goto 4, 3) := by decide +kernel
theorem dX2_touchCount_42 : decode cX2_touchCount 42 = .ok (.iconst 0, 1) := by decide +kernel
theorem dX2_touchCount_43 : decode cX2_touchCount 43 = .ok (.iadd, 1) := by decide +kernel
theorem dX2_touchCount_44 : decode cX2_touchCount 44 = .ok (.istore_n 2, 1) := by decide +kernel
theorem dX2_touchCount_45 : decode cX2_touchCount 45 = .ok (.iinc 4 1, 3) := by decide +kernel
theorem dX2_touchCount_48 : decode cX2_touchCount 48 = .ok (.goto (-31), 3) := by decide +kernel
theorem dX2_touchCount_51 : decode cX2_touchCount 51 = .ok (.iinc 3 1, 3) := by decide +kernel
theorem dX2_touchCount_54 : decode cX2_touchCount 54 = .ok (.goto (-50), 3) := by decide +kernel
theorem dX2_touchCount_57 : decode cX2_touchCount 57 = .ok (.iload_n 2, 1) := by decide +kernel
theorem dX2_touchCount_58 : decode cX2_touchCount 58 = .ok (.ireturn, 1) := by decide +kernel
theorem dX2_allCoins_0 : decode cX2_allCoins 0 = .ok (.iconst 0, 1) := by decide +kernel
theorem dX2_allCoins_1 : decode cX2_allCoins 1 = .ok (.istore_n 1, 1) := by decide +kernel
theorem dX2_allCoins_2 : decode cX2_allCoins 2 = .ok (.iconst 0, 1) := by decide +kernel
theorem dX2_allCoins_3 : decode cX2_allCoins 3 = .ok (.istore_n 2, 1) := by decide +kernel
theorem dX2_allCoins_4 : decode cX2_allCoins 4 = .ok (.iload_n 2, 1) := by decide +kernel
theorem dX2_allCoins_5 : decode cX2_allCoins 5 = .ok (.aload_n 0, 1) := by decide +kernel
theorem dX2_allCoins_6 : decode cX2_allCoins 6 = .ok (.getfield 15, 3) := by decide +kernel
theorem dX2_allCoins_9 : decode cX2_allCoins 9 = .ok (.if_icmp .ge 17, 3) := by decide +kernel
theorem dX2_allCoins_12 : decode cX2_allCoins 12 = .ok (.iload_n 1, 1) := by decide +kernel
theorem dX2_allCoins_13 : decode cX2_allCoins 13 = .ok (.aload_n 0, 1) := by decide +kernel
theorem dX2_allCoins_14 : decode cX2_allCoins 14 = .ok (.iload_n 2, 1) := by decide +kernel
theorem dX2_allCoins_15 : decode cX2_allCoins 15 = .ok (.invokevirtual 85, 3) := by decide +kernel
theorem dX2_allCoins_18 : decode cX2_allCoins 18 = .ok (.iadd, 1) := by decide +kernel
theorem dX2_allCoins_19 : decode cX2_allCoins 19 = .ok (.istore_n 1, 1) := by decide +kernel
theorem dX2_allCoins_20 : decode cX2_allCoins 20 = .ok (.iinc 2 1, 3) := by decide +kernel
theorem dX2_allCoins_23 : decode cX2_allCoins 23 = .ok (.goto (-19), 3) := by decide +kernel
theorem dX2_allCoins_26 : decode cX2_allCoins 26 = .ok (.iload_n 1, 1) := by decide +kernel
theorem dX2_allCoins_27 : decode cX2_allCoins 27 = .ok (.ireturn, 1) := by decide +kernel
theorem dX3_init_0 : decode cX3_init 0 = .ok (.aload_n 0, 1) := by decide +kernel
theorem dX3_init_1 : decode cX3_init 1 = .ok (.invokespecial 3, 3) := by decide +kernel
theorem dX3_init_4 : decode cX3_init 4 = .ok (.aload_n 0, 1) := by decide +kernel
theorem dX3_init_5 : decode cX3_init 5 = .ok (.iconst 0, 1) := by decide +kernel
theorem dX3_init_6 : decode cX3_init 6 = .ok (.putfield 9, 3) := by decide +kernel
theorem dX3_init_9 : decode cX3_init 9 = .ok (.aload_n 0, 1) := by decide +kernel
theorem dX3_init_10 : decode cX3_init 10 = .ok (.iconst 0, 1) := by decide +kernel
theorem dX3_init_11 : decode cX3_init 11 = .ok (.putfield 15, 3) := by decide +kernel
theorem dX3_init_14 : decode cX3_init 14 = .ok (.aload_n 0, 1) := by decide +kernel
theorem dX3_init_15 : decode cX3_init 15 = .ok (.iconst 0, 1) := by decide +kernel
theorem dX3_init_16 : decode cX3_init 16 = .ok (.putfield 18, 3) := by decide +kernel
theorem dX3_init_19 : decode cX3_init 19 = .ok (.aload_n 0, 1) := by decide +kernel
theorem dX3_init_20 : decode cX3_init 20 = .ok (.iconst 0, 1) := by decide +kernel
theorem dX3_init_21 : decode cX3_init 21 = .ok (.putfield 21, 3) := by decide +kernel
theorem dX3_init_24 : decode cX3_init 24 = .ok (.aload_n 0, 1) := by decide +kernel
theorem dX3_init_25 : decode cX3_init 25 = .ok (.iconst 0, 1) := by decide +kernel
theorem dX3_init_26 : decode cX3_init 26 = .ok (.putfield 24, 3) := by decide +kernel
theorem dX3_init_29 : decode cX3_init 29 = .ok (.aload_n 0, 1) := by decide +kernel
theorem dX3_init_30 : decode cX3_init 30 = .ok (.iconst 0, 1) := by decide +kernel
theorem dX3_init_31 : decode cX3_init 31 = .ok (.putfield 27, 3) := by decide +kernel
theorem dX3_init_34 : decode cX3_init 34 = .ok (.return_, 1) := by decide +kernel
theorem dX3_countStatements_0 : decode cX3_countStatements 0 = .ok (.aload_n 0, 1) := by decide +kernel
theorem dX3_countStatements_1 : decode cX3_countStatements 1 = .ok (.iconst 0, 1) := by decide +kernel
theorem dX3_countStatements_2 : decode cX3_countStatements 2 = .ok (.putfield 9, 3) := by decide +kernel
theorem dX3_countStatements_5 : decode cX3_countStatements 5 = .ok (.iconst 0, 1) := by decide +kernel
theorem dX3_countStatements_6 : decode cX3_countStatements 6 = .ok (.istore_n 2, 1) := by decide +kernel
theorem dX3_countStatements_7 : decode cX3_countStatements 7 = .ok (.iload_n 2, 1) := by decide +kernel
theorem dX3_countStatements_8 : decode cX3_countStatements 8 = .ok (.ifCond .eq 22, 3) := by decide +kernel
theorem dX3_countStatements_11 : decode cX3_countStatements 11 = .ok (.aload_n 0, 1) := by decide +kernel
theorem dX3_countStatements_12 : decode cX3_countStatements 12 = .ok (.getfield 9, 3) := by decide +kernel
theorem dX3_countStatements_15 : decode cX3_countStatements 15 = .ok (.aload_n 1, 1) := by decide +kernel
theorem dX3_countStatements_16 : decode cX3_countStatements 16 = .ok (.getfield 31, 3) := by decide +kernel
theorem dX3_countStatements_19 : decode cX3_countStatements 19 = .ok (.if_icmp .ge 34, 3) := by decide +kernel
theorem dX3_countStatements_22 : decode cX3_countStatements 22 = .ok (.iload_n 2, 1) := by decide +kernel
theorem dX3_countStatements_23 : decode cX3_countStatements 23 = .ok (.aload_n 1, 1) := by decide +kernel
theorem dX3_countStatements_24 : decode cX3_countStatements 24 = .ok (.getfield 31, 3) := by decide +kernel
theorem dX3_countStatements_27 : decode cX3_countStatements 27 = .ok (.if_icmp .ge 26, 3) := by decide +kernel
theorem dX3_countStatements_30 : decode cX3_countStatements 30 = .ok (.aload_n 0, 1) := by decide +kernel
theorem dX3_countStatements_31 : decode cX3_countStatements 31 = .ok (.aload_n 1, 1) := by decide +kernel
theorem dX3_countStatements_32 : decode cX3_countStatements 32 = .ok (.invokevirtual 36, 3) := by decide +kernel
theorem dX3_countStatements_35 : decode cX3_countStatements 35 = .ok (.ifCond .ne 12, 3) := by decide +kernel
theorem dX3_countStatements_38 : decode cX3_countStatements 38 = .ok (.sipush (-1000), 3) := by decide +kernel
theorem dX3_countStatements_41 : decode cX3_countStatements 41 = .ok (.aload_n 0, 1) := by decide +kernel
theorem dX3_countStatements_42 : decode cX3_countStatements 42 = .ok (.getfield 9, 3) := by decide +kernel
theorem dX3_countStatements_45 : decode cX3_countStatements 45 = .ok (.isub, 1) := by decide +kernel
theorem dX3_countStatements_46 : decode cX3_countStatements 46 = .ok (.ireturn, 1) := by decide +kernel
theorem dX3_countStatements_47 : decode cX3_countStatements 47 = .ok (.iinc 2 1, 3) := by decide +kernel
theorem dX3_countStatements_50 : decode cX3_countStatements 50 = .ok (.goto (-43), 3) := by decide +kernel
theorem dX3_countStatements_53 : decode cX3_countStatements 53 = .ok (.iload_n 2, 1) := by decide +kernel
theorem dX3_countStatements_54 : decode cX3_countStatements 54 = .ok (.ireturn, 1) := by decide +kernel
theorem dX3_carryOut_0 : decode cX3_carryOut 0 = .ok (.aload_n 0, 1) := by decide +kernel
theorem dX3_carryOut_1 : decode cX3_carryOut 1 = .ok (.iconst 0, 1) := by decide +kernel
theorem dX3_carryOut_2 : decode cX3_carryOut 2 = .ok (.putfield 9, 3) := by decide +kernel
theorem dX3_carryOut_5 : decode cX3_carryOut 5 = .ok (.iconst 0, 1) := by decide +kernel
theorem dX3_carryOut_6 : decode cX3_carryOut 6 = .ok (.istore 4, 2) := by decide +kernel
theorem dX3_carryOut_8 : decode cX3_carryOut 8 = .ok (.iload 4, 2) := by decide +kernel
theorem dX3_carryOut_10 : decode cX3_carryOut 10 = .ok (.iload_n 3, 1) := by decide +kernel
theorem dX3_carryOut_11 : decode cX3_carryOut 11 = .ok (.if_icmp .ge 36, 3) := by decide +kernel
theorem dX3_carryOut_14 : decode cX3_carryOut 14 = .ok (.aload_n 0, 1) := by decide +kernel
theorem dX3_carryOut_15 : decode cX3_carryOut 15 = .ok (.getfield 9, 3) := by decide +kernel
theorem dX3_carryOut_18 : decode cX3_carryOut 18 = .ok (.istore 5, 2) := by decide +kernel
theorem dX3_carryOut_20 : decode cX3_carryOut 20 = .ok (.aload_n 0, 1) := by decide +kernel
theorem dX3_carryOut_21 : decode cX3_carryOut 21 = .ok (.aload_n 2, 1) := by decide +kernel
theorem dX3_carryOut_22 : decode cX3_carryOut 22 = .ok (.invokevirtual 36, 3) := by decide +kernel
theorem dX3_carryOut_25 : decode cX3_carryOut 25 = .ok (.pop, 1) := by decide +kernel
theorem dX3_carryOut_26 : decode cX3_carryOut 26 = .ok (.aload_n 0, 1) := by decide +kernel
theorem dX3_carryOut_27 : decode cX3_carryOut 27 = .ok (.aload_n 1, 1) := by decide +kernel
theorem dX3_carryOut_28 : decode cX3_carryOut 28 = .ok (.invokevirtual 40, 3) := by decide +kernel
theorem dX3_carryOut_31 : decode cX3_carryOut 31 = .ok (.ifCond .ne 10, 3) := by decide +kernel
theorem dX3_carryOut_34 : decode cX3_carryOut 34 = .ok (.sipush (-2000), 3) := by decide +kernel
theorem dX3_carryOut_37 : decode cX3_carryOut 37 = .ok (.iload 5, 2) := by decide +kernel
theorem dX3_carryOut_39 : decode cX3_carryOut 39 = .ok (.isub, 1) := by decide +kernel
theorem dX3_carryOut_40 : decode cX3_carryOut 40 = .ok (.ireturn, 1) := by decide +kernel
theorem dX3_carryOut_41 : decode cX3_carryOut 41 = .ok (.iinc 4 1, 3) := by decide +kernel
theorem dX3_carryOut_44 : decode cX3_carryOut 44 = .ok (.goto (-36), 3) := by decide +kernel
theorem dX3_carryOut_47 : decode cX3_carryOut 47 = .ok (.iconst 0, 1) := by decide +kernel
theorem dX3_carryOut_48 : decode cX3_carryOut 48 = .ok (.ireturn, 1) := by decide +kernel
theorem dX3_takeStatement_0 : decode cX3_takeStatement 0 = .ok (.aload_n 0, 1) := by decide +kernel
theorem dX3_takeStatement_1 : decode cX3_takeStatement 1 = .ok (.aload_n 1, 1) := by decide +kernel
theorem dX3_takeStatement_2 : decode cX3_takeStatement 2 = .ok (.aload_n 0, 1) := by decide +kernel
theorem dX3_takeStatement_3 : decode cX3_takeStatement 3 = .ok (.getfield 9, 3) := by decide +kernel
theorem dX3_takeStatement_6 : decode cX3_takeStatement 6 = .ok (.invokevirtual 44, 3) := by decide +kernel
theorem dX3_takeStatement_9 : decode cX3_takeStatement 9 = .ok (.putfield 15, 3) := by decide +kernel
theorem dX3_takeStatement_12 : decode cX3_takeStatement 12 = .ok (.aload_n 0, 1) := by decide +kernel
theorem dX3_takeStatement_13 : decode cX3_takeStatement 13 = .ok (.invokevirtual 47, 3) := by decide +kernel
theorem dX3_takeStatement_16 : decode cX3_takeStatement 16 = .ok (.ifCond .ne 5, 3) := by decide +kernel
theorem dX3_takeStatement_19 : decode cX3_takeStatement 19 = .ok (.iconst 0, 1) := by decide +kernel
theorem dX3_takeStatement_20 : decode cX3_takeStatement 20 = .ok (.ireturn, 1) := by decide +kernel
theorem dX3_takeStatement_21 : decode cX3_takeStatement 21 = .ok (.aload_n 0, 1) := by decide +kernel
theorem dX3_takeStatement_22 : decode cX3_takeStatement 22 = .ok (.dup, 1) := by decide +kernel
theorem dX3_takeStatement_23 : decode cX3_takeStatement 23 = .ok (.getfield 9, 3) := by decide +kernel
theorem dX3_takeStatement_26 : decode cX3_takeStatement 26 = .ok (.iconst 1, 1) := by decide +kernel
theorem dX3_takeStatement_27 : decode cX3_takeStatement 27 = .ok (.iadd, 1) := by decide +kernel
theorem dX3_takeStatement_28 : decode cX3_takeStatement 28 = .ok (.putfield 9, 3) := by decide +kernel
theorem dX3_takeStatement_31 : decode cX3_takeStatement 31 = .ok (.aload_n 0, 1) := by decide +kernel
theorem dX3_takeStatement_32 : decode cX3_takeStatement 32 = .ok (.aload_n 1, 1) := by decide +kernel
theorem dX3_takeStatement_33 : decode cX3_takeStatement 33 = .ok (.invokevirtual 51, 3) := by decide +kernel
theorem dX3_takeStatement_36 : decode cX3_takeStatement 36 = .ok (.ifCond .eq 17, 3) := by decide +kernel
theorem dX3_takeStatement_39 : decode cX3_takeStatement 39 = .ok (.aload_n 0, 1) := by decide +kernel
theorem dX3_takeStatement_40 : decode cX3_takeStatement 40 = .ok (.aload_n 1, 1) := by decide +kernel
theorem dX3_takeStatement_41 : decode cX3_takeStatement 41 = .ok (.bipush 59, 2) := by decide +kernel
theorem dX3_takeStatement_43 : decode cX3_takeStatement 43 = .ok (.invokevirtual 54, 3) := by decide +kernel
theorem dX3_takeStatement_46 : decode cX3_takeStatement 46 = .ok (.ifCond .eq 7, 3) := by decide +kernel
theorem dX3_takeStatement_49 : decode cX3_takeStatement 49 = .ok (.iconst 1, 1) := by decide +kernel
theorem dX3_takeStatement_50 : decode cX3_takeStatement 50 = .ok (.goto 4, 3) := by decide +kernel
theorem dX3_takeStatement_53 : decode cX3_takeStatement 53 = .ok (.iconst 0, 1) := by decide +kernel
theorem dX3_takeStatement_54 : decode cX3_takeStatement 54 = .ok (.ireturn, 1) := by decide +kernel
theorem dX3_isLetter_0 : decode cX3_isLetter 0 = .ok (.aload_n 0, 1) := by decide +kernel
theorem dX3_isLetter_1 : decode cX3_isLetter 1 = .ok (.getfield 15, 3) := by decide +kernel
theorem dX3_isLetter_4 : decode cX3_isLetter 4 = .ok (.tableswitch 106 99 120 #[104, 106, 106, 104, 106, 104, 106, 106, 106, 106, 106, 106, 104, 104, 106, 106, 106, 106, 106, 106, 104, 104], 104) := by decide +kernel
theorem dX3_isLetter_108 : decode cX3_isLetter 108 = .ok (.iconst 1, 1) := by decide +kernel
theorem dX3_isLetter_109 : decode cX3_isLetter 109 = .ok (.ireturn, 1) := by decide +kernel
theorem dX3_isLetter_110 : decode cX3_isLetter 110 = .ok (.iconst 0, 1) := by decide +kernel
theorem dX3_isLetter_111 : decode cX3_isLetter 111 = .ok (.ireturn, 1) := by decide +kernel
theorem dX3_takeBehindLetter_0 : decode cX3_takeBehindLetter 0 = .ok (.aload_n 0, 1) := by decide +kernel
theorem dX3_takeBehindLetter_1 : decode cX3_takeBehindLetter 1 = .ok (.getfield 15, 3) := by decide +kernel
theorem dX3_takeBehindLetter_4 : decode cX3_takeBehindLetter 4 = .ok (.lookupswitch 131 #[(102, 44), (104, 51), (112, 74), (119, 97)], 44) := by decide +kernel
theorem dX3_takeBehindLetter_48 : decode cX3_takeBehindLetter 48 = .ok (.aload_n 0, 1) := by decide +kernel
theorem dX3_takeBehindLetter_49 : decode cX3_takeBehindLetter 49 = .ok (.aload_n 1, 1) := by decide +kernel
theorem dX3_takeBehindLetter_50 : decode cX3_takeBehindLetter 50 = .ok (.iconst 1, 1) := by decide +kernel
theorem dX3_takeBehindLetter_51 : decode cX3_takeBehindLetter 51 = .ok (.invokevirtual 58, 3) := by decide +kernel
theorem dX3_takeBehindLetter_54 : decode cX3_takeBehindLetter 54 = .ok (.ireturn, 1) := by decide +kernel
theorem dX3_takeBehindLetter_55 : decode cX3_takeBehindLetter 55 = .ok (.aload_n 0, 1) := by decide +kernel
theorem dX3_takeBehindLetter_56 : decode cX3_takeBehindLetter 56 = .ok (.aload_n 1, 1) := by decide +kernel
theorem dX3_takeBehindLetter_57 : decode cX3_takeBehindLetter 57 = .ok (.iconst 2, 1) := by decide +kernel
theorem dX3_takeBehindLetter_58 : decode cX3_takeBehindLetter 58 = .ok (.invokevirtual 58, 3) := by decide +kernel
theorem dX3_takeBehindLetter_61 : decode cX3_takeBehindLetter 61 = .ok (.ifCond .eq 15, 3) := by decide +kernel
theorem dX3_takeBehindLetter_64 : decode cX3_takeBehindLetter 64 = .ok (.aload_n 0, 1) := by decide +kernel
theorem dX3_takeBehindLetter_65 : decode cX3_takeBehindLetter 65 = .ok (.aload_n 1, 1) := by decide +kernel
theorem dX3_takeBehindLetter_66 : decode cX3_takeBehindLetter 66 = .ok (.invokevirtual 61, 3) := by decide +kernel
theorem dX3_takeBehindLetter_69 : decode cX3_takeBehindLetter 69 = .ok (.ifCond .eq 7, 3) := by decide +kernel
theorem dX3_takeBehindLetter_72 : decode cX3_takeBehindLetter 72 = .ok (.iconst 1, 1) := by decide +kernel
theorem dX3_takeBehindLetter_73 : decode cX3_takeBehindLetter 73 = .ok (.goto 4, 3) := by decide +kernel
theorem dX3_takeBehindLetter_76 : decode cX3_takeBehindLetter 76 = .ok (.iconst 0, 1) := by decide +kernel
theorem dX3_takeBehindLetter_77 : decode cX3_takeBehindLetter 77 = .ok (.ireturn, 1) := by decide +kernel
theorem dX3_takeBehindLetter_78 : decode cX3_takeBehindLetter 78 = .ok (.aload_n 0, 1) := by decide +kernel
theorem dX3_takeBehindLetter_79 : decode cX3_takeBehindLetter 79 = .ok (.aload_n 1, 1) := by decide +kernel
theorem dX3_takeBehindLetter_80 : decode cX3_takeBehindLetter 80 = .ok (.iconst 3, 1) := by decide +kernel
theorem dX3_takeBehindLetter_81 : decode cX3_takeBehindLetter 81 = .ok (.invokevirtual 64, 3) := by decide +kernel
theorem dX3_takeBehindLetter_84 : decode cX3_takeBehindLetter 84 = .ok (.ifCond .eq 15, 3) := by decide +kernel
theorem dX3_takeBehindLetter_87 : decode cX3_takeBehindLetter 87 = .ok (.aload_n 0, 1) := by decide +kernel
theorem dX3_takeBehindLetter_88 : decode cX3_takeBehindLetter 88 = .ok (.aload_n 1, 1) := by decide +kernel
theorem dX3_takeBehindLetter_89 : decode cX3_takeBehindLetter 89 = .ok (.invokevirtual 67, 3) := by decide +kernel
theorem dX3_takeBehindLetter_92 : decode cX3_takeBehindLetter 92 = .ok (.ifCond .eq 7, 3) := by decide +kernel
theorem dX3_takeBehindLetter_95 : decode cX3_takeBehindLetter 95 = .ok (.iconst 1, 1) := by decide +kernel
theorem dX3_takeBehindLetter_96 : decode cX3_takeBehindLetter 96 = .ok (.goto 4, 3) := by decide +kernel
theorem dX3_takeBehindLetter_99 : decode cX3_takeBehindLetter 99 = .ok (.iconst 0, 1) := by decide +kernel
theorem dX3_takeBehindLetter_100 : decode cX3_takeBehindLetter 100 = .ok (.ireturn, 1) := by decide +kernel
theorem dX3_takeBehindLetter_101 : decode cX3_takeBehindLetter 101 = .ok (.aload_n 0, 1) := by decide +kernel
theorem dX3_takeBehindLetter_102 : decode cX3_takeBehindLetter 102 = .ok (.aload_n 1, 1) := by decide +kernel
theorem dX3_takeBehindLetter_103 : decode cX3_takeBehindLetter 103 = .ok (.iconst 2, 1) := by decide +kernel
theorem dX3_takeBehindLetter_104 : decode cX3_takeBehindLetter 104 = .ok (.invokevirtual 58, 3) := by decide +kernel
theorem dX3_takeBehindLetter_107 : decode cX3_takeBehindLetter 107 = .ok (.ifCond .eq 26, 3) := by decide +kernel
theorem dX3_takeBehindLetter_110 : decode cX3_takeBehindLetter 110 = .ok (.aload_n 0, 1) := by decide +kernel
theorem dX3_takeBehindLetter_111 : decode cX3_takeBehindLetter 111 = .ok (.aload_n 1, 1) := by decide +kernel
theorem dX3_takeBehindLetter_112 : decode cX3_takeBehindLetter 112 = .ok (.bipush 32, 2) := by decide +kernel
theorem dX3_takeBehindLetter_114 : decode cX3_takeBehindLetter 114 = .ok (.invokevirtual 54, 3) := by decide +kernel
theorem dX3_takeBehindLetter_117 : decode cX3_takeBehindLetter 117 = .ok (.ifCond .eq 16, 3) := by decide +kernel
theorem dX3_takeBehindLetter_120 : decode cX3_takeBehindLetter 120 = .ok (.aload_n 0, 1) := by decide +kernel
theorem dX3_takeBehindLetter_121 : decode cX3_takeBehindLetter 121 = .ok (.aload_n 1, 1) := by decide +kernel
theorem dX3_takeBehindLetter_122 : decode cX3_takeBehindLetter 122 = .ok (.iconst 2, 1) := by decide +kernel
theorem dX3_takeBehindLetter_123 : decode cX3_takeBehindLetter 123 = .ok (.invokevirtual 64, 3) := by decide +kernel
theorem dX3_takeBehindLetter_126 : decode cX3_takeBehindLetter 126 = .ok (.ifCond .eq 7, 3) := by decide +kernel
theorem dX3_takeBehindLetter_129 : decode cX3_takeBehindLetter 129 = .ok (.iconst 1, 1) := by decide +kernel
theorem dX3_takeBehindLetter_130 : decode cX3_takeBehindLetter 130 = .ok (.goto 4, 3) := by decide +kernel
theorem dX3_takeBehindLetter_133 : decode cX3_takeBehindLetter 133 = .ok (.iconst 0, 1) := by decide +kernel
theorem dX3_takeBehindLetter_134 : decode cX3_takeBehindLetter 134 = .ok (.ireturn, 1) := by decide +kernel
theorem dX3_takeBehindLetter_135 : decode cX3_takeBehindLetter 135 = .ok (.aload_n 0, 1) := by decide +kernel
theorem dX3_takeBehindLetter_136 : decode cX3_takeBehindLetter 136 = .ok (.aload_n 1, 1) := by decide +kernel
theorem dX3_takeBehindLetter_137 : decode cX3_takeBehindLetter 137 = .ok (.iconst 2, 1) := by decide +kernel
theorem dX3_takeBehindLetter_138 : decode cX3_takeBehindLetter 138 = .ok (.invokevirtual 58, 3) := by decide +kernel
theorem dX3_takeBehindLetter_141 : decode cX3_takeBehindLetter 141 = .ok (.ireturn, 1) := by decide +kernel
theorem dX3_takeSign_0 : decode cX3_takeSign 0 = .ok (.aload_n 1, 1) := by decide +kernel
theorem dX3_takeSign_1 : decode cX3_takeSign 1 = .ok (.aload_n 0, 1) := by decide +kernel
theorem dX3_takeSign_2 : decode cX3_takeSign 2 = .ok (.getfield 9, 3) := by decide +kernel
theorem dX3_takeSign_5 : decode cX3_takeSign 5 = .ok (.invokevirtual 44, 3) := by decide +kernel
theorem dX3_takeSign_8 : decode cX3_takeSign 8 = .ok (.iload_n 2, 1) := by decide +kernel
theorem dX3_takeSign_9 : decode cX3_takeSign 9 = .ok (.if_icmp .eq 5, 3) := by decide +kernel
theorem dX3_takeSign_12 : decode cX3_takeSign 12 = .ok (.iconst 0, 1) := by decide +kernel
theorem dX3_takeSign_13 : decode cX3_takeSign 13 = .ok (.ireturn, 1) := by decide +kernel
theorem dX3_takeSign_14 : decode cX3_takeSign 14 = .ok (.aload_n 0, 1) := by decide +kernel
theorem dX3_takeSign_15 : decode cX3_takeSign 15 = .ok (.dup, 1) := by decide +kernel
theorem dX3_takeSign_16 : decode cX3_takeSign 16 = .ok (.getfield 9, 3) := by decide +kernel
theorem dX3_takeSign_19 : decode cX3_takeSign 19 = .ok (.iconst 1, 1) := by decide +kernel
theorem dX3_takeSign_20 : decode cX3_takeSign 20 = .ok (.iadd, 1) := by decide +kernel
theorem dX3_takeSign_21 : decode cX3_takeSign 21 = .ok (.putfield 9, 3) := by decide +kernel
theorem dX3_takeSign_24 : decode cX3_takeSign 24 = .ok (.iconst 1, 1) := by decide +kernel
theorem dX3_takeSign_25 : decode cX3_takeSign 25 = .ok (.ireturn, 1) := by decide +kernel
theorem dX3_isDigit_0 : decode cX3_isDigit 0 = .ok (.iload_n 0, 1) := by decide +kernel
theorem dX3_isDigit_1 : decode cX3_isDigit 1 = .ok (.bipush 48, 2) := by decide +kernel
theorem dX3_isDigit_3 : decode cX3_isDigit 3 = .ok (.if_icmp .lt 13, 3) := by decide +kernel
theorem dX3_isDigit_6 : decode cX3_isDigit 6 = .ok (.iload_n 0, 1) := by decide +kernel
theorem dX3_isDigit_7 : decode cX3_isDigit 7 = .ok (.bipush 57, 2) := by decide +kernel
theorem dX3_isDigit_9 : decode cX3_isDigit 9 = .ok (.if_icmp .gt 7, 3) := by decide +kernel
theorem dX3_isDigit_12 : decode cX3_isDigit 12 = .ok (.iconst 1, 1) := by decide +kernel
theorem dX3_isDigit_13 : decode cX3_isDigit 13 = .ok (.goto 4, 3) := by decide +kernel
theorem dX3_isDigit_16 : decode cX3_isDigit 16 = .ok (.iconst 0, 1) := by decide +kernel
theorem dX3_isDigit_17 : decode cX3_isDigit 17 = .ok (.ireturn, 1) := by decide +kernel
theorem dX3_takeDigits_0 : decode cX3_takeDigits 0 = .ok (.iconst 0, 1) := by decide +kernel
theorem dX3_takeDigits_1 : decode cX3_takeDigits 1 = .ok (.istore_n 3, 1) := by decide +kernel
theorem dX3_takeDigits_2 : decode cX3_takeDigits 2 = .ok (.iload_n 3, 1) := by decide +kernel
theorem dX3_takeDigits_3 : decode cX3_takeDigits 3 = .ok (.iload_n 2, 1) := by decide +kernel
theorem dX3_takeDigits_4 : decode cX3_takeDigits 4 = .ok (.if_icmp .ge 64, 3) := by decide +kernel
theorem dX3_takeDigits_7 : decode cX3_takeDigits 7 = .ok (.aload_n 1, 1) := by decide +kernel
theorem dX3_takeDigits_8 : decode cX3_takeDigits 8 = .ok (.aload_n 0, 1) := by decide +kernel
theorem dX3_takeDigits_9 : decode cX3_takeDigits 9 = .ok (.getfield 9, 3) := by decide +kernel
theorem dX3_takeDigits_12 : decode cX3_takeDigits 12 = .ok (.invokevirtual 44, 3) := by decide +kernel
theorem dX3_takeDigits_15 : decode cX3_takeDigits 15 = .ok (.istore 4, 2) := by decide +kernel
theorem dX3_takeDigits_17 : decode cX3_takeDigits 17 = .ok (.iload 4, 2) := by decide +kernel
theorem dX3_takeDigits_19 : decode cX3_takeDigits 19 = .ok (.invokestatic 70, 3) := by decide +kernel
theorem dX3_takeDigits_22 : decode cX3_takeDigits 22 = .ok (.ifCond .ne 5, 3) := by decide +kernel
theorem dX3_takeDigits_25 : decode cX3_takeDigits 25 = .ok (.iconst 0, 1) := by decide +kernel
theorem dX3_takeDigits_26 : decode cX3_takeDigits 26 = .ok (.ireturn, 1) := by decide +kernel
theorem dX3_takeDigits_27 : decode cX3_takeDigits 27 = .ok (.iload_n 3, 1) := by decide +kernel
theorem dX3_takeDigits_28 : decode cX3_takeDigits 28 = .ok (.ifCond .ne 15, 3) := by decide +kernel
theorem dX3_takeDigits_31 : decode cX3_takeDigits 31 = .ok (.aload_n 0, 1) := by decide +kernel
theorem dX3_takeDigits_32 : decode cX3_takeDigits 32 = .ok (.iload 4, 2) := by decide +kernel
theorem dX3_takeDigits_34 : decode cX3_takeDigits 34 = .ok (.bipush 48, 2) := by decide +kernel
theorem dX3_takeDigits_36 : decode cX3_takeDigits 36 = .ok (.isub, 1) := by decide +kernel
theorem dX3_takeDigits_37 : decode cX3_takeDigits 37 = .ok (.putfield 18, 3) := by decide +kernel
theorem dX3_takeDigits_40 : decode cX3_takeDigits 40 = .ok (.goto 12, 3) := by decide +kernel
theorem dX3_takeDigits_43 : decode cX3_takeDigits 43 = .ok (.aload_n 0, 1) := by decide +kernel
theorem dX3_takeDigits_44 : decode cX3_takeDigits 44 = .ok (.iload 4, 2) := by decide +kernel
theorem dX3_takeDigits_46 : decode cX3_takeDigits 46 = .ok (.bipush 48, 2) := by decide +kernel
theorem dX3_takeDigits_48 : decode cX3_takeDigits 48 = .ok (.isub, 1) := by decide +kernel
theorem dX3_takeDigits_49 : decode cX3_takeDigits 49 = .ok (.putfield 21, 3) := by decide +kernel
theorem dX3_takeDigits_52 : decode cX3_takeDigits 52 = .ok (.aload_n 0, 1) := by decide +kernel
theorem dX3_takeDigits_53 : decode cX3_takeDigits 53 = .ok (.dup, 1) := by decide +kernel
theorem dX3_takeDigits_54 : decode cX3_takeDigits 54 = .ok (.getfield 9, 3) := by decide +kernel
theorem dX3_takeDigits_57 : decode cX3_takeDigits 57 = .ok (.iconst 1, 1) := by decide +kernel
theorem dX3_takeDigits_58 : decode cX3_takeDigits 58 = .ok (.iadd, 1) := by decide +kernel
theorem dX3_takeDigits_59 : decode cX3_takeDigits 59 = .ok (.putfield 9, 3) := by decide +kernel
theorem dX3_takeDigits_62 : decode cX3_takeDigits 62 = .ok (.iinc 3 1, 3) := by decide +kernel
theorem dX3_takeDigits_65 : decode cX3_takeDigits 65 = .ok (.goto (-63), 3) := by decide +kernel
theorem dX3_takeDigits_68 : decode cX3_takeDigits 68 = .ok (.iconst 1, 1) := by decide +kernel
theorem dX3_takeDigits_69 : decode cX3_takeDigits 69 = .ok (.ireturn, 1) := by decide +kernel
theorem dX3_takeLane_0 : decode cX3_takeLane 0 = .ok (.aload_n 0, 1) := by decide +kernel
theorem dX3_takeLane_1 : decode cX3_takeLane 1 = .ok (.aload_n 0, 1) := by decide +kernel
theorem dX3_takeLane_2 : decode cX3_takeLane 2 = .ok (.aload_n 1, 1) := by decide +kernel
theorem dX3_takeLane_3 : decode cX3_takeLane 3 = .ok (.bipush 108, 2) := by decide +kernel
theorem dX3_takeLane_5 : decode cX3_takeLane 5 = .ok (.invokevirtual 54, 3) := by decide +kernel
theorem dX3_takeLane_8 : decode cX3_takeLane 8 = .ok (.putfield 27, 3) := by decide +kernel
theorem dX3_takeLane_11 : decode cX3_takeLane 11 = .ok (.iconst 1, 1) := by decide +kernel
theorem dX3_takeLane_12 : decode cX3_takeLane 12 = .ok (.ireturn, 1) := by decide +kernel
theorem dX3_takeKin_0 : decode cX3_takeKin 0 = .ok (.aload_n 0, 1) := by decide +kernel
theorem dX3_takeKin_1 : decode cX3_takeKin 1 = .ok (.aload_n 0, 1) := by decide +kernel
theorem dX3_takeKin_2 : decode cX3_takeKin 2 = .ok (.aload_n 1, 1) := by decide +kernel
theorem dX3_takeKin_3 : decode cX3_takeKin 3 = .ok (.bipush 107, 2) := by decide +kernel
theorem dX3_takeKin_5 : decode cX3_takeKin 5 = .ok (.invokevirtual 54, 3) := by decide +kernel
theorem dX3_takeKin_8 : decode cX3_takeKin 8 = .ok (.putfield 27, 3) := by decide +kernel
theorem dX3_takeKin_11 : decode cX3_takeKin 11 = .ok (.aload_n 0, 1) := by decide +kernel
theorem dX3_takeKin_12 : decode cX3_takeKin 12 = .ok (.getfield 27, 3) := by decide +kernel
theorem dX3_takeKin_15 : decode cX3_takeKin 15 = .ok (.ifCond .eq 12, 3) := by decide +kernel
theorem dX3_takeKin_18 : decode cX3_takeKin 18 = .ok (.aload_n 0, 1) := by decide +kernel
theorem dX3_takeKin_19 : decode cX3_takeKin 19 = .ok (.aload_n 1, 1) := by decide +kernel
theorem dX3_takeKin_20 : decode cX3_takeKin 20 = .ok (.iconst 1, 1) := by decide +kernel
theorem dX3_takeKin_21 : decode cX3_takeKin 21 = .ok (.invokevirtual 58, 3) := by decide +kernel
theorem dX3_takeKin_24 : decode cX3_takeKin 24 = .ok (.ifCond .eq 7, 3) := by decide +kernel
theorem dX3_takeKin_27 : decode cX3_takeKin 27 = .ok (.iconst 1, 1) := by decide +kernel
theorem dX3_takeKin_28 : decode cX3_takeKin 28 = .ok (.goto 4, 3) := by decide +kernel
theorem dX3_takeKin_31 : decode cX3_takeKin 31 = .ok (.iconst 0, 1) := by decide +kernel
theorem dX3_takeKin_32 : decode cX3_takeKin 32 = .ok (.ireturn, 1) := by decide +kernel
theorem dX3_takeFigure_0 : decode cX3_takeFigure 0 = .ok (.iconst 0, 1) := by decide +kernel
theorem dX3_takeFigure_1 : decode cX3_takeFigure 1 = .ok (.istore_n 3, 1) := by decide +kernel
theorem dX3_takeFigure_2 : decode cX3_takeFigure 2 = .ok (.aload_n 0, 1) := by decide +kernel
theorem dX3_takeFigure_3 : decode cX3_takeFigure 3 = .ok (.iconst 0, 1) := by decide +kernel
theorem dX3_takeFigure_4 : decode cX3_takeFigure 4 = .ok (.putfield 24, 3) := by decide +kernel
theorem dX3_takeFigure_7 : decode cX3_takeFigure 7 = .ok (.iload_n 3, 1) := by decide +kernel
theorem dX3_takeFigure_8 : decode cX3_takeFigure 8 = .ok (.iload_n 2, 1) := by decide +kernel
theorem dX3_takeFigure_9 : decode cX3_takeFigure 9 = .ok (.if_icmp .ge 67, 3) := by decide +kernel
theorem dX3_takeFigure_12 : decode cX3_takeFigure 12 = .ok (.aload_n 1, 1) := by decide +kernel
theorem dX3_takeFigure_13 : decode cX3_takeFigure 13 = .ok (.aload_n 0, 1) := by decide +kernel
theorem dX3_takeFigure_14 : decode cX3_takeFigure 14 = .ok (.getfield 9, 3) := by decide +kernel
theorem dX3_takeFigure_17 : decode cX3_takeFigure 17 = .ok (.invokevirtual 44, 3) := by decide +kernel
theorem dX3_takeFigure_20 : decode cX3_takeFigure 20 = .ok (.invokestatic 70, 3) := by decide +kernel
theorem dX3_takeFigure_23 : decode cX3_takeFigure 23 = .ok (.ifCond .eq 53, 3) := by decide +kernel
theorem dX3_takeFigure_26 : decode cX3_takeFigure 26 = .ok (.iload_n 3, 1) := by decide +kernel
theorem dX3_takeFigure_27 : decode cX3_takeFigure 27 = .ok (.ifCond .eq 10, 3) := by decide +kernel
theorem dX3_takeFigure_30 : decode cX3_takeFigure 30 = .ok (.aload_n 0, 1) := by decide +kernel
theorem dX3_takeFigure_31 : decode cX3_takeFigure 31 = .ok (.getfield 24, 3) := by decide +kernel
theorem dX3_takeFigure_34 : decode cX3_takeFigure 34 = .ok (.ifCond .le 42, 3) := by decide +kernel
theorem dX3_takeFigure_37 : decode cX3_takeFigure 37 = .ok (.aload_n 0, 1) := by decide +kernel
theorem dX3_takeFigure_38 : decode cX3_takeFigure 38 = .ok (.bipush 10, 2) := by decide +kernel
theorem dX3_takeFigure_40 : decode cX3_takeFigure 40 = .ok (.aload_n 0, 1) := by decide +kernel
theorem dX3_takeFigure_41 : decode cX3_takeFigure 41 = .ok (.getfield 24, 3) := by decide +kernel
theorem dX3_takeFigure_44 : decode cX3_takeFigure 44 = .ok (.imul, 1) := by decide +kernel
theorem dX3_takeFigure_45 : decode cX3_takeFigure 45 = .ok (.aload_n 1, 1) := by decide +kernel
theorem dX3_takeFigure_46 : decode cX3_takeFigure 46 = .ok (.aload_n 0, 1) := by decide +kernel
theorem dX3_takeFigure_47 : decode cX3_takeFigure 47 = .ok (.getfield 9, 3) := by decide +kernel
theorem dX3_takeFigure_50 : decode cX3_takeFigure 50 = .ok (.invokevirtual 44, 3) := by decide +kernel
theorem dX3_takeFigure_53 : decode cX3_takeFigure 53 = .ok (.iadd, 1) := by decide +kernel
theorem dX3_takeFigure_54 : decode cX3_takeFigure 54 = .ok (.bipush 48, 2) := by decide +kernel
theorem dX3_takeFigure_56 : decode cX3_takeFigure 56 = .ok (.isub, 1) := by decide +kernel
theorem dX3_takeFigure_57 : decode cX3_takeFigure 57 = .ok (.putfield 24, 3) := by decide +kernel
theorem dX3_takeFigure_60 : decode cX3_takeFigure 60 = .ok (.aload_n 0, 1) := by decide +kernel
theorem dX3_takeFigure_61 : decode cX3_takeFigure 61 = .ok (.dup, 1) := by decide +kernel
theorem dX3_takeFigure_62 : decode cX3_takeFigure 62 = .ok (.getfield 9, 3) := by decide +kernel
theorem dX3_takeFigure_65 : decode cX3_takeFigure 65 = .ok (.iconst 1, 1) := by decide +kernel
theorem dX3_takeFigure_66 : decode cX3_takeFigure 66 = .ok (.iadd, 1) := by decide +kernel
theorem dX3_takeFigure_67 : decode cX3_takeFigure 67 = .ok (.putfield 9, 3) := by decide +kernel
theorem dX3_takeFigure_70 : decode cX3_takeFigure 70 = .ok (.iinc 3 1, 3) := by decide +kernel
theorem dX3_takeFigure_73 : decode cX3_takeFigure 73 = .ok (.goto (-66), 3) := by decide +kernel
theorem dX3_takeFigure_76 : decode cX3_takeFigure 76 = .ok (.iload_n 3, 1) := by decide +kernel
theorem dX3_takeFigure_77 : decode cX3_takeFigure 77 = .ok (.ifCond .le 7, 3) := by decide +kernel
theorem dX3_takeFigure_80 : decode cX3_takeFigure 80 = .ok (.iconst 1, 1) := by decide +kernel
theorem dX3_takeFigure_81 : decode cX3_takeFigure 81 = .ok (.goto 4, 3) := by decide +kernel
theorem dX3_takeFigure_84 : decode cX3_takeFigure 84 = .ok (.iconst 0, 1) := by decide +kernel
theorem dX3_takeFigure_85 : decode cX3_takeFigure 85 = .ok (.ireturn, 1) := by decide +kernel
theorem dX3_carryOutOne_0 : decode cX3_carryOutOne 0 = .ok (.aload_n 0, 1) := by decide +kernel
theorem dX3_carryOutOne_1 : decode cX3_carryOutOne 1 = .ok (.getfield 15, 3) := by decide +kernel
theorem dX3_carryOutOne_4 : decode cX3_carryOutOne 4 = .ok (.lookupswitch 163 #[(99, 94), (102, 60), (104, 69), (111, 131), (112, 108), (119, 114)], 60) := by decide +kernel
theorem dX3_carryOutOne_64 : decode cX3_carryOutOne 64 = .ok (.aload_n 1, 1) := by decide +kernel
theorem dX3_carryOutOne_65 : decode cX3_carryOutOne 65 = .ok (.aload_n 0, 1) := by decide +kernel
theorem dX3_carryOutOne_66 : decode cX3_carryOutOne 66 = .ok (.getfield 18, 3) := by decide +kernel
theorem dX3_carryOutOne_69 : decode cX3_carryOutOne 69 = .ok (.invokevirtual 74, 3) := by decide +kernel
theorem dX3_carryOutOne_72 : decode cX3_carryOutOne 72 = .ok (.ireturn, 1) := by decide +kernel
theorem dX3_carryOutOne_73 : decode cX3_carryOutOne 73 = .ok (.aload_n 1, 1) := by decide +kernel
theorem dX3_carryOutOne_74 : decode cX3_carryOutOne 74 = .ok (.aload_n 0, 1) := by decide +kernel
theorem dX3_carryOutOne_75 : decode cX3_carryOutOne 75 = .ok (.getfield 18, 3) := by decide +kernel
theorem dX3_carryOutOne_78 : decode cX3_carryOutOne 78 = .ok (.aload_n 0, 1) := by decide +kernel
theorem dX3_carryOutOne_79 : decode cX3_carryOutOne 79 = .ok (.getfield 21, 3) := by decide +kernel
theorem dX3_carryOutOne_82 : decode cX3_carryOutOne 82 = .ok (.aload_n 0, 1) := by decide +kernel
theorem dX3_carryOutOne_83 : decode cX3_carryOutOne 83 = .ok (.getfield 27, 3) := by decide +kernel
theorem dX3_carryOutOne_86 : decode cX3_carryOutOne 86 = .ok (.ifCond .eq 7, 3) := by decide +kernel
theorem dX3_carryOutOne_89 : decode cX3_carryOutOne 89 = .ok (.iconst 2, 1) := by decide +kernel
theorem dX3_carryOutOne_90 : decode cX3_carryOutOne 90 = .ok (.goto 4, 3) := by decide +kernel
theorem dX3_carryOutOne_93 : decode cX3_carryOutOne 93 = .ok (.iconst 1, 1) := by decide +kernel
theorem dX3_carryOutOne_94 : decode cX3_carryOutOne 94 = .ok (.invokevirtual 79, 3) := by decide +kernel
theorem dX3_carryOutOne_97 : decode cX3_carryOutOne 97 = .ok (.ireturn, 1) := by decide +kernel
theorem dX3_carryOutOne_98 : decode cX3_carryOutOne 98 = .ok (.aload_n 1, 1) := by decide +kernel
theorem dX3_carryOutOne_99 : decode cX3_carryOutOne 99 = .ok (.aload_n 0, 1) := by decide +kernel
theorem dX3_carryOutOne_100 : decode cX3_carryOutOne 100 = .ok (.getfield 18, 3) := by decide +kernel
theorem dX3_carryOutOne_103 : decode cX3_carryOutOne 103 = .ok (.aload_n 0, 1) := by decide +kernel
theorem dX3_carryOutOne_104 : decode cX3_carryOutOne 104 = .ok (.getfield 21, 3) := by decide +kernel
theorem dX3_carryOutOne_107 : decode cX3_carryOutOne 107 = .ok (.iconst 3, 1) := by decide +kernel
theorem dX3_carryOutOne_108 : decode cX3_carryOutOne 108 = .ok (.invokevirtual 79, 3) := by decide +kernel
theorem dX3_carryOutOne_111 : decode cX3_carryOutOne 111 = .ok (.ireturn, 1) := by decide +kernel
theorem dX3_carryOutOne_112 : decode cX3_carryOutOne 112 = .ok (.aload_n 0, 1) := by decide +kernel
theorem dX3_carryOutOne_113 : decode cX3_carryOutOne 113 = .ok (.aload_n 1, 1) := by decide +kernel
theorem dX3_carryOutOne_114 : decode cX3_carryOutOne 114 = .ok (.invokevirtual 83, 3) := by decide +kernel
theorem dX3_carryOutOne_117 : decode cX3_carryOutOne 117 = .ok (.ireturn, 1) := by decide +kernel
theorem dX3_carryOutOne_118 : decode cX3_carryOutOne 118 = .ok (.aload_n 1, 1) := by decide +kernel
theorem dX3_carryOutOne_119 : decode cX3_carryOutOne 119 = .ok (.aload_n 0, 1) := by decide +kernel
theorem dX3_carryOutOne_120 : decode cX3_carryOutOne 120 = .ok (.getfield 18, 3) := by decide +kernel
theorem dX3_carryOutOne_123 : decode cX3_carryOutOne 123 = .ok (.aload_n 0, 1) := by decide +kernel
theorem dX3_carryOutOne_124 : decode cX3_carryOutOne 124 = .ok (.getfield 21, 3) := by decide +kernel
theorem dX3_carryOutOne_127 : decode cX3_carryOutOne 127 = .ok (.aload_n 0, 1) := by decide +kernel
theorem dX3_carryOutOne_128 : decode cX3_carryOutOne 128 = .ok (.getfield 24, 3) := by decide +kernel
theorem dX3_carryOutOne_131 : decode cX3_carryOutOne 131 = .ok (.invokevirtual 86, 3) := by decide +kernel
theorem dX3_carryOutOne_134 : decode cX3_carryOutOne 134 = .ok (.ireturn, 1) := by decide +kernel
theorem dX3_carryOutOne_135 : decode cX3_carryOutOne 135 = .ok (.aload_n 1, 1) := by decide +kernel
theorem dX3_carryOutOne_136 : decode cX3_carryOutOne 136 = .ok (.aload_n 0, 1) := by decide +kernel
theorem dX3_carryOutOne_137 : decode cX3_carryOutOne 137 = .ok (.getfield 18, 3) := by decide +kernel
theorem dX3_carryOutOne_140 : decode cX3_carryOutOne 140 = .ok (.invokevirtual 89, 3) := by decide +kernel
theorem dX3_carryOutOne_143 : decode cX3_carryOutOne 143 = .ok (.ifCond .eq 22, 3) := by decide +kernel
theorem dX3_carryOutOne_146 : decode cX3_carryOutOne 146 = .ok (.aload_n 1, 1) := by decide +kernel
theorem dX3_carryOutOne_147 : decode cX3_carryOutOne 147 = .ok (.aload_n 0, 1) := by decide +kernel
theorem dX3_carryOutOne_148 : decode cX3_carryOutOne 148 = .ok (.getfield 18, 3) := by decide +kernel
theorem dX3_carryOutOne_151 : decode cX3_carryOutOne 151 = .ok (.aload_n 0, 1) := by decide +kernel
theorem dX3_carryOutOne_152 : decode cX3_carryOutOne 152 = .ok (.getfield 21, 3) := by decide +kernel
theorem dX3_carryOutOne_155 : decode cX3_carryOutOne 155 = .ok (.invokevirtual 92, 3) := by decide +kernel
theorem dX3_carryOutOne_158 : decode cX3_carryOutOne 158 = .ok (.ifCond .eq 7, 3) := by decide +kernel
theorem dX3_carryOutOne_161 : decode cX3_carryOutOne 161 = .ok (.iconst 1, 1) := by decide +kernel
theorem dX3_carryOutOne_162 : decode cX3_carryOutOne 162 = .ok (.goto 4, 3) := by decide +kernel
theorem dX3_carryOutOne_165 : decode cX3_carryOutOne 165 = .ok (.iconst 0, 1) := by decide +kernel
theorem dX3_carryOutOne_166 : decode cX3_carryOutOne 166 = .ok (.ireturn, 1) := by decide +kernel
theorem dX3_carryOutOne_167 : decode cX3_carryOutOne 167 = .ok (.aload_n 0, 1) := by decide +kernel
theorem dX3_carryOutOne_168 : decode cX3_carryOutOne 168 = .ok (.aload_n 1, 1) := by decide +kernel
theorem dX3_carryOutOne_169 : decode cX3_carryOutOne 169 = .ok (.invokevirtual 96, 3) := by decide +kernel
theorem dX3_carryOutOne_172 : decode cX3_carryOutOne 172 = .ok (.ireturn, 1) := by decide +kernel
theorem dX3_carryOutPerson_0 : decode cX3_carryOutPerson 0 = .ok (.aload_n 0, 1) := by decide +kernel
theorem dX3_carryOutPerson_1 : decode cX3_carryOutPerson 1 = .ok (.getfield 27, 3) := by decide +kernel
theorem dX3_carryOutPerson_4 : decode cX3_carryOutPerson 4 = .ok (.ifCond .ne 14, 3) := by decide +kernel
theorem dX3_carryOutPerson_7 : decode cX3_carryOutPerson 7 = .ok (.aload_n 1, 1) := by decide +kernel
theorem dX3_carryOutPerson_8 : decode cX3_carryOutPerson 8 = .ok (.aload_n 0, 1) := by decide +kernel
theorem dX3_carryOutPerson_9 : decode cX3_carryOutPerson 9 = .ok (.getfield 24, 3) := by decide +kernel
theorem dX3_carryOutPerson_12 : decode cX3_carryOutPerson 12 = .ok (.bipush 9, 2) := by decide +kernel
theorem dX3_carryOutPerson_14 : decode cX3_carryOutPerson 14 = .ok (.invokevirtual 99, 3) := by decide +kernel
theorem dX3_carryOutPerson_17 : decode cX3_carryOutPerson 17 = .ok (.ireturn, 1) := by decide +kernel
theorem dX3_carryOutPerson_18 : decode cX3_carryOutPerson 18 = .ok (.aload_n 1, 1) := by decide +kernel
theorem dX3_carryOutPerson_19 : decode cX3_carryOutPerson 19 = .ok (.aload_n 0, 1) := by decide +kernel
theorem dX3_carryOutPerson_20 : decode cX3_carryOutPerson 20 = .ok (.getfield 18, 3) := by decide +kernel
theorem dX3_carryOutPerson_23 : decode cX3_carryOutPerson 23 = .ok (.invokevirtual 89, 3) := by decide +kernel
theorem dX3_carryOutPerson_26 : decode cX3_carryOutPerson 26 = .ok (.ifCond .eq 22, 3) := by decide +kernel
theorem dX3_carryOutPerson_29 : decode cX3_carryOutPerson 29 = .ok (.aload_n 1, 1) := by decide +kernel
theorem dX3_carryOutPerson_30 : decode cX3_carryOutPerson 30 = .ok (.aload_n 0, 1) := by decide +kernel
theorem dX3_carryOutPerson_31 : decode cX3_carryOutPerson 31 = .ok (.getfield 24, 3) := by decide +kernel
theorem dX3_carryOutPerson_34 : decode cX3_carryOutPerson 34 = .ok (.aload_n 0, 1) := by decide +kernel
theorem dX3_carryOutPerson_35 : decode cX3_carryOutPerson 35 = .ok (.getfield 18, 3) := by decide +kernel
theorem dX3_carryOutPerson_38 : decode cX3_carryOutPerson 38 = .ok (.invokevirtual 99, 3) := by decide +kernel
theorem dX3_carryOutPerson_41 : decode cX3_carryOutPerson 41 = .ok (.ifCond .eq 7, 3) := by decide +kernel
theorem dX3_carryOutPerson_44 : decode cX3_carryOutPerson 44 = .ok (.iconst 1, 1) := by decide +kernel
theorem dX3_carryOutPerson_45 : decode cX3_carryOutPerson 45 = .ok (.goto 4, 3) := by decide +kernel
theorem dX3_carryOutPerson_48 : decode cX3_carryOutPerson 48 = .ok (.iconst 0, 1) := by decide +kernel
theorem dX3_carryOutPerson_49 : decode cX3_carryOutPerson 49 = .ok (.ireturn, 1) := by decide +kernel
theorem dX3_carryOutLaw_0 : decode cX3_carryOutLaw 0 = .ok (.aload_n 0, 1) := by decide +kernel
theorem dX3_carryOutLaw_1 : decode cX3_carryOutLaw 1 = .ok (.getfield 18, 3) := by decide +kernel
theorem dX3_carryOutLaw_4 : decode cX3_carryOutLaw 4 = .ok (.iconst 1, 1) := by decide +kernel
theorem dX3_carryOutLaw_5 : decode cX3_carryOutLaw 5 = .ok (.if_icmp .gt 11, 3) := by decide +kernel
theorem dX3_carryOutLaw_8 : decode cX3_carryOutLaw 8 = .ok (.aload_n 0, 1) := by decide +kernel
theorem dX3_carryOutLaw_9 : decode cX3_carryOutLaw 9 = .ok (.getfield 21, 3) := by decide +kernel
theorem dX3_carryOutLaw_12 : decode cX3_carryOutLaw 12 = .ok (.iconst 1, 1) := by decide +kernel
theorem dX3_carryOutLaw_13 : decode cX3_carryOutLaw 13 = .ok (.if_icmp .le 5, 3) := by decide +kernel
theorem dX3_carryOutLaw_16 : decode cX3_carryOutLaw 16 = .ok (.iconst 0, 1) := by decide +kernel
theorem dX3_carryOutLaw_17 : decode cX3_carryOutLaw 17 = .ok (.ireturn, 1) := by decide +kernel
theorem dX3_carryOutLaw_18 : decode cX3_carryOutLaw 18 = .ok (.aload_n 1, 1) := by decide +kernel
theorem dX3_carryOutLaw_19 : decode cX3_carryOutLaw 19 = .ok (.iconst 0, 1) := by decide +kernel
theorem dX3_carryOutLaw_20 : decode cX3_carryOutLaw 20 = .ok (.aload_n 0, 1) := by decide +kernel
theorem dX3_carryOutLaw_21 : decode cX3_carryOutLaw 21 = .ok (.getfield 18, 3) := by decide +kernel
theorem dX3_carryOutLaw_24 : decode cX3_carryOutLaw 24 = .ok (.iconst 1, 1) := by decide +kernel
theorem dX3_carryOutLaw_25 : decode cX3_carryOutLaw 25 = .ok (.if_icmp .ne 7, 3) := by decide +kernel
theorem dX3_carryOutLaw_28 : decode cX3_carryOutLaw 28 = .ok (.iconst 1, 1) := by decide +kernel
theorem dX3_carryOutLaw_29 : decode cX3_carryOutLaw 29 = .ok (.goto 4, 3) := by decide +kernel
theorem dX3_carryOutLaw_32 : decode cX3_carryOutLaw 32 = .ok (.iconst 0, 1) := by decide +kernel
theorem dX3_carryOutLaw_33 : decode cX3_carryOutLaw 33 = .ok (.invokevirtual 102, 3) := by decide +kernel
theorem dX3_carryOutLaw_36 : decode cX3_carryOutLaw 36 = .ok (.aload_n 1, 1) := by decide +kernel
theorem dX3_carryOutLaw_37 : decode cX3_carryOutLaw 37 = .ok (.iconst 1, 1) := by decide +kernel
theorem dX3_carryOutLaw_38 : decode cX3_carryOutLaw 38 = .ok (.aload_n 0, 1) := by decide +kernel
theorem dX3_carryOutLaw_39 : decode cX3_carryOutLaw 39 = .ok (.getfield 21, 3) := by decide +kernel
theorem dX3_carryOutLaw_42 : decode cX3_carryOutLaw 42 = .ok (.iconst 1, 1) := by decide +kernel
theorem dX3_carryOutLaw_43 : decode cX3_carryOutLaw 43 = .ok (.if_icmp .ne 7, 3) := by decide +kernel
theorem dX3_carryOutLaw_46 : decode cX3_carryOutLaw 46 = .ok (.iconst 1, 1) := by decide +kernel
theorem dX3_carryOutLaw_47 : decode cX3_carryOutLaw 47 = .ok (.goto 4, 3) := by decide +kernel
theorem dX3_carryOutLaw_50 : decode cX3_carryOutLaw 50 = .ok (.iconst 0, 1) := by decide +kernel
theorem dX3_carryOutLaw_51 : decode cX3_carryOutLaw 51 = .ok (.invokevirtual 102, 3) := by decide +kernel
theorem dX3_carryOutLaw_54 : decode cX3_carryOutLaw 54 = .ok (.iconst 1, 1) := by decide +kernel
theorem dX3_carryOutLaw_55 : decode cX3_carryOutLaw 55 = .ok (.ireturn, 1) := by decide +kernel
theorem dX4_init_0 : decode cX4_init 0 = .ok (.aload_n 0, 1) := by decide +kernel
theorem dX4_init_1 : decode cX4_init 1 = .ok (.invokespecial 3, 3) := by decide +kernel
theorem dX4_init_4 : decode cX4_init 4 = .ok (.aload_n 0, 1) := by decide +kernel
theorem dX4_init_5 : decode cX4_init 5 = .ok (.iconst 0, 1) := by decide +kernel
theorem dX4_init_6 : decode cX4_init 6 = .ok (.putfield 9, 3) := by decide +kernel
theorem dX4_init_9 : decode cX4_init 9 = .ok (.aload_n 0, 1) := by decide +kernel
theorem dX4_init_10 : decode cX4_init 10 = .ok (.iconst 0, 1) := by decide +kernel
theorem dX4_init_11 : decode cX4_init 11 = .ok (.putfield 15, 3) := by decide +kernel
theorem dX4_init_14 : decode cX4_init 14 = .ok (.aload_n 0, 1) := by decide +kernel
theorem dX4_init_15 : decode cX4_init 15 = .ok (.iconst 0, 1) := by decide +kernel
theorem dX4_init_16 : decode cX4_init 16 = .ok (.putfield 18, 3) := by decide +kernel
theorem dX4_init_19 : decode cX4_init 19 = .ok (.aload_n 0, 1) := by decide +kernel
theorem dX4_init_20 : decode cX4_init 20 = .ok (.iconst 0, 1) := by decide +kernel
theorem dX4_init_21 : decode cX4_init 21 = .ok (.putfield 21, 3) := by decide +kernel
theorem dX4_init_24 : decode cX4_init 24 = .ok (.aload_n 0, 1) := by decide +kernel
theorem dX4_init_25 : decode cX4_init 25 = .ok (.iconst 0, 1) := by decide +kernel
theorem dX4_init_26 : decode cX4_init 26 = .ok (.putfield 24, 3) := by decide +kernel
theorem dX4_init_29 : decode cX4_init 29 = .ok (.return_, 1) := by decide +kernel
theorem dX4_become_0 : decode cX4_become 0 = .ok (.aload_n 0, 1) := by decide +kernel
theorem dX4_become_1 : decode cX4_become 1 = .ok (.iload_n 1, 1) := by decide +kernel
theorem dX4_become_2 : decode cX4_become 2 = .ok (.putfield 9, 3) := by decide +kernel
theorem dX4_become_5 : decode cX4_become 5 = .ok (.aload_n 0, 1) := by decide +kernel
theorem dX4_become_6 : decode cX4_become 6 = .ok (.iload_n 2, 1) := by decide +kernel
theorem dX4_become_7 : decode cX4_become 7 = .ok (.sipush 1000, 3) := by decide +kernel
theorem dX4_become_10 : decode cX4_become 10 = .ok (.idiv, 1) := by decide +kernel
theorem dX4_become_11 : decode cX4_become 11 = .ok (.bipush 10, 2) := by decide +kernel
theorem dX4_become_13 : decode cX4_become 13 = .ok (.irem, 1) := by decide +kernel
theorem dX4_become_14 : decode cX4_become 14 = .ok (.putfield 15, 3) := by decide +kernel
theorem dX4_become_17 : decode cX4_become 17 = .ok (.aload_n 0, 1) := by decide +kernel
theorem dX4_become_18 : decode cX4_become 18 = .ok (.iload_n 2, 1) := by decide +kernel
theorem dX4_become_19 : decode cX4_become 19 = .ok (.bipush 100, 2) := by decide +kernel
theorem dX4_become_21 : decode cX4_become 21 = .ok (.idiv, 1) := by decide +kernel
theorem dX4_become_22 : decode cX4_become 22 = .ok (.bipush 10, 2) := by decide +kernel
theorem dX4_become_24 : decode cX4_become 24 = .ok (.irem, 1) := by decide +kernel
theorem dX4_become_25 : decode cX4_become 25 = .ok (.putfield 18, 3) := by decide +kernel
theorem dX4_become_28 : decode cX4_become 28 = .ok (.aload_n 0, 1) := by decide +kernel
theorem dX4_become_29 : decode cX4_become 29 = .ok (.iload_n 2, 1) := by decide +kernel
theorem dX4_become_30 : decode cX4_become 30 = .ok (.bipush 10, 2) := by decide +kernel
theorem dX4_become_32 : decode cX4_become 32 = .ok (.idiv, 1) := by decide +kernel
theorem dX4_become_33 : decode cX4_become 33 = .ok (.bipush 10, 2) := by decide +kernel
theorem dX4_become_35 : decode cX4_become 35 = .ok (.irem, 1) := by decide +kernel
theorem dX4_become_36 : decode cX4_become 36 = .ok (.putfield 21, 3) := by decide +kernel
theorem dX4_become_39 : decode cX4_become 39 = .ok (.aload_n 0, 1) := by decide +kernel
theorem dX4_become_40 : decode cX4_become 40 = .ok (.iload_n 2, 1) := by decide +kernel
theorem dX4_become_41 : decode cX4_become 41 = .ok (.bipush 10, 2) := by decide +kernel
theorem dX4_become_43 : decode cX4_become 43 = .ok (.irem, 1) := by decide +kernel
theorem dX4_become_44 : decode cX4_become 44 = .ok (.putfield 24, 3) := by decide +kernel
theorem dX4_become_47 : decode cX4_become 47 = .ok (.return_, 1) := by decide +kernel
theorem dX4_isThere_0 : decode cX4_isThere 0 = .ok (.aload_n 1, 1) := by decide +kernel
theorem dX4_isThere_1 : decode cX4_isThere 1 = .ok (.aload_n 0, 1) := by decide +kernel
theorem dX4_isThere_2 : decode cX4_isThere 2 = .ok (.getfield 15, 3) := by decide +kernel
theorem dX4_isThere_5 : decode cX4_isThere 5 = .ok (.invokevirtual 27, 3) := by decide +kernel
theorem dX4_isThere_8 : decode cX4_isThere 8 = .ok (.ifCond .eq 14, 3) := by decide +kernel
theorem dX4_isThere_11 : decode cX4_isThere 11 = .ok (.aload_n 1, 1) := by decide +kernel
theorem dX4_isThere_12 : decode cX4_isThere 12 = .ok (.aload_n 0, 1) := by decide +kernel
theorem dX4_isThere_13 : decode cX4_isThere 13 = .ok (.getfield 18, 3) := by decide +kernel
theorem dX4_isThere_16 : decode cX4_isThere 16 = .ok (.invokevirtual 33, 3) := by decide +kernel
theorem dX4_isThere_19 : decode cX4_isThere 19 = .ok (.ifCond .ne 5, 3) := by decide +kernel
theorem dX4_isThere_22 : decode cX4_isThere 22 = .ok (.iconst 0, 1) := by decide +kernel
theorem dX4_isThere_23 : decode cX4_isThere 23 = .ok (.ireturn, 1) := by decide +kernel
theorem dX4_isThere_24 : decode cX4_isThere 24 = .ok (.aload_n 0, 1) := by decide +kernel
theorem dX4_isThere_25 : decode cX4_isThere 25 = .ok (.getfield 9, 3) := by decide +kernel
theorem dX4_isThere_28 : decode cX4_isThere 28 = .ok (.iconst 2, 1) := by decide +kernel
theorem dX4_isThere_29 : decode cX4_isThere 29 = .ok (.if_icmp .eq 19, 3) := by decide +kernel
theorem dX4_isThere_32 : decode cX4_isThere 32 = .ok (.aload_n 0, 1) := by decide +kernel
theorem dX4_isThere_33 : decode cX4_isThere 33 = .ok (.getfield 9, 3) := by decide +kernel
theorem dX4_isThere_36 : decode cX4_isThere 36 = .ok (.iconst 3, 1) := by decide +kernel
theorem dX4_isThere_37 : decode cX4_isThere 37 = .ok (.if_icmp .eq 11, 3) := by decide +kernel
theorem dX4_isThere_40 : decode cX4_isThere 40 = .ok (.aload_n 0, 1) := by decide +kernel
theorem dX4_isThere_41 : decode cX4_isThere 41 = .ok (.getfield 9, 3) := by decide +kernel
theorem dX4_isThere_44 : decode cX4_isThere 44 = .ok (.iconst 5, 1) := by decide +kernel
theorem dX4_isThere_45 : decode cX4_isThere 45 = .ok (.if_icmp .ne 7, 3) := by decide +kernel
theorem dX4_isThere_48 : decode cX4_isThere 48 = .ok (.iconst 1, 1) := by decide +kernel
theorem dX4_isThere_49 : decode cX4_isThere 49 = .ok (.goto 4, 3) := by decide +kernel
theorem dX4_isThere_52 : decode cX4_isThere 52 = .ok (.iconst 0, 1) := by decide +kernel
theorem dX4_isThere_53 : decode cX4_isThere 53 = .ok (.istore_n 2, 1) := by decide +kernel
theorem dX4_isThere_54 : decode cX4_isThere 54 = .ok (.iload_n 2, 1) := by decide +kernel
theorem dX4_isThere_55 : decode cX4_isThere 55 = .ok (.ifCond .eq 16, 3) := by decide +kernel
theorem dX4_isThere_58 : decode cX4_isThere 58 = .ok (.aload_n 1, 1) := by decide +kernel
theorem dX4_isThere_59 : decode cX4_isThere 59 = .ok (.aload_n 0, 1) := by decide +kernel
theorem dX4_isThere_60 : decode cX4_isThere 60 = .ok (.getfield 21, 3) := by decide +kernel
theorem dX4_isThere_63 : decode cX4_isThere 63 = .ok (.invokevirtual 33, 3) := by decide +kernel
theorem dX4_isThere_66 : decode cX4_isThere 66 = .ok (.ifCond .ne 5, 3) := by decide +kernel
theorem dX4_isThere_69 : decode cX4_isThere 69 = .ok (.iconst 0, 1) := by decide +kernel
theorem dX4_isThere_70 : decode cX4_isThere 70 = .ok (.ireturn, 1) := by decide +kernel
theorem dX4_isThere_71 : decode cX4_isThere 71 = .ok (.aload_n 0, 1) := by decide +kernel
theorem dX4_isThere_72 : decode cX4_isThere 72 = .ok (.getfield 9, 3) := by decide +kernel
theorem dX4_isThere_75 : decode cX4_isThere 75 = .ok (.iconst 3, 1) := by decide +kernel
theorem dX4_isThere_76 : decode cX4_isThere 76 = .ok (.if_icmp .ne 14, 3) := by decide +kernel
theorem dX4_isThere_79 : decode cX4_isThere 79 = .ok (.aload_n 1, 1) := by decide +kernel
theorem dX4_isThere_80 : decode cX4_isThere 80 = .ok (.aload_n 0, 1) := by decide +kernel
theorem dX4_isThere_81 : decode cX4_isThere 81 = .ok (.getfield 24, 3) := by decide +kernel
theorem dX4_isThere_84 : decode cX4_isThere 84 = .ok (.invokevirtual 33, 3) := by decide +kernel
theorem dX4_isThere_87 : decode cX4_isThere 87 = .ok (.ifCond .eq 7, 3) := by decide +kernel
theorem dX4_isThere_90 : decode cX4_isThere 90 = .ok (.iconst 1, 1) := by decide +kernel
theorem dX4_isThere_91 : decode cX4_isThere 91 = .ok (.goto 4, 3) := by decide +kernel
theorem dX4_isThere_94 : decode cX4_isThere 94 = .ok (.iconst 0, 1) := by decide +kernel
theorem dX4_isThere_95 : decode cX4_isThere 95 = .ok (.ireturn, 1) := by decide +kernel
theorem dX4_isAsTold_0 : decode cX4_isAsTold 0 = .ok (.aload_n 0, 1) := by decide +kernel
theorem dX4_isAsTold_1 : decode cX4_isAsTold 1 = .ok (.getfield 9, 3) := by decide +kernel
theorem dX4_isAsTold_4 : decode cX4_isAsTold 4 = .ok (.tableswitch 164 1 7 #[44, 65, 82, 44, 121, 164, 143], 44) := by decide +kernel
theorem dX4_isAsTold_48 : decode cX4_isAsTold 48 = .ok (.aload_n 1, 1) := by decide +kernel
theorem dX4_isAsTold_49 : decode cX4_isAsTold 49 = .ok (.aload_n 0, 1) := by decide +kernel
theorem dX4_isAsTold_50 : decode cX4_isAsTold 50 = .ok (.getfield 18, 3) := by decide +kernel
theorem dX4_isAsTold_53 : decode cX4_isAsTold 53 = .ok (.invokevirtual 36, 3) := by decide +kernel
theorem dX4_isAsTold_56 : decode cX4_isAsTold 56 = .ok (.aload_n 0, 1) := by decide +kernel
theorem dX4_isAsTold_57 : decode cX4_isAsTold 57 = .ok (.getfield 15, 3) := by decide +kernel
theorem dX4_isAsTold_60 : decode cX4_isAsTold 60 = .ok (.if_icmp .eq 7, 3) := by decide +kernel
theorem dX4_isAsTold_63 : decode cX4_isAsTold 63 = .ok (.iconst 1, 1) := by decide +kernel
theorem dX4_isAsTold_64 : decode cX4_isAsTold 64 = .ok (.goto 4, 3) := by decide +kernel
theorem dX4_isAsTold_67 : decode cX4_isAsTold 67 = .ok (.iconst 0, 1) := by decide +kernel
theorem dX4_isAsTold_68 : decode cX4_isAsTold 68 = .ok (.ireturn, 1) := by decide +kernel
theorem dX4_isAsTold_69 : decode cX4_isAsTold 69 = .ok (.aload_n 0, 1) := by decide +kernel
theorem dX4_isAsTold_70 : decode cX4_isAsTold 70 = .ok (.getfield 18, 3) := by decide +kernel
theorem dX4_isAsTold_73 : decode cX4_isAsTold 73 = .ok (.aload_n 0, 1) := by decide +kernel
theorem dX4_isAsTold_74 : decode cX4_isAsTold 74 = .ok (.getfield 21, 3) := by decide +kernel
theorem dX4_isAsTold_77 : decode cX4_isAsTold 77 = .ok (.if_icmp .eq 7, 3) := by decide +kernel
theorem dX4_isAsTold_80 : decode cX4_isAsTold 80 = .ok (.iconst 1, 1) := by decide +kernel
theorem dX4_isAsTold_81 : decode cX4_isAsTold 81 = .ok (.goto 4, 3) := by decide +kernel
theorem dX4_isAsTold_84 : decode cX4_isAsTold 84 = .ok (.iconst 0, 1) := by decide +kernel
theorem dX4_isAsTold_85 : decode cX4_isAsTold 85 = .ok (.ireturn, 1) := by decide +kernel
theorem dX4_isAsTold_86 : decode cX4_isAsTold 86 = .ok (.aload_n 0, 1) := by decide +kernel
theorem dX4_isAsTold_87 : decode cX4_isAsTold 87 = .ok (.getfield 18, 3) := by decide +kernel
theorem dX4_isAsTold_90 : decode cX4_isAsTold 90 = .ok (.aload_n 0, 1) := by decide +kernel
theorem dX4_isAsTold_91 : decode cX4_isAsTold 91 = .ok (.getfield 21, 3) := by decide +kernel
theorem dX4_isAsTold_94 : decode cX4_isAsTold 94 = .ok (.if_icmp .eq 29, 3) := by decide +kernel
theorem dX4_isAsTold_97 : decode cX4_isAsTold 97 = .ok (.aload_n 0, 1) := by decide +kernel
theorem dX4_isAsTold_98 : decode cX4_isAsTold 98 = .ok (.getfield 18, 3) := by decide +kernel
theorem dX4_isAsTold_101 : decode cX4_isAsTold 101 = .ok (.aload_n 0, 1) := by decide +kernel
theorem dX4_isAsTold_102 : decode cX4_isAsTold 102 = .ok (.getfield 24, 3) := by decide +kernel
theorem dX4_isAsTold_105 : decode cX4_isAsTold 105 = .ok (.if_icmp .eq 18, 3) := by decide +kernel
theorem dX4_isAsTold_108 : decode cX4_isAsTold 108 = .ok (.aload_n 0, 1) := by decide +kernel
theorem dX4_isAsTold_109 : decode cX4_isAsTold 109 = .ok (.getfield 21, 3) := by decide +kernel
theorem dX4_isAsTold_112 : decode cX4_isAsTold 112 = .ok (.aload_n 0, 1) := by decide +kernel
theorem dX4_isAsTold_113 : decode cX4_isAsTold 113 = .ok (.getfield 24, 3) := by decide +kernel
theorem dX4_isAsTold_116 : decode cX4_isAsTold 116 = .ok (.if_icmp .eq 7, 3) := by decide +kernel
theorem dX4_isAsTold_119 : decode cX4_isAsTold 119 = .ok (.iconst 1, 1) := by decide +kernel
theorem dX4_isAsTold_120 : decode cX4_isAsTold 120 = .ok (.goto 4, 3) := by decide +kernel
theorem dX4_isAsTold_123 : decode cX4_isAsTold 123 = .ok (.iconst 0, 1) := by decide +kernel
theorem dX4_isAsTold_124 : decode cX4_isAsTold 124 = .ok (.ireturn, 1) := by decide +kernel
theorem dX4_isAsTold_125 : decode cX4_isAsTold 125 = .ok (.aload_n 1, 1) := by decide +kernel
theorem dX4_isAsTold_126 : decode cX4_isAsTold 126 = .ok (.aload_n 0, 1) := by decide +kernel
theorem dX4_isAsTold_127 : decode cX4_isAsTold 127 = .ok (.getfield 18, 3) := by decide +kernel
theorem dX4_isAsTold_130 : decode cX4_isAsTold 130 = .ok (.aload_n 0, 1) := by decide +kernel
theorem dX4_isAsTold_131 : decode cX4_isAsTold 131 = .ok (.getfield 21, 3) := by decide +kernel
theorem dX4_isAsTold_134 : decode cX4_isAsTold 134 = .ok (.invokevirtual 40, 3) := by decide +kernel
theorem dX4_isAsTold_137 : decode cX4_isAsTold 137 = .ok (.iconst 1, 1) := by decide +kernel
theorem dX4_isAsTold_138 : decode cX4_isAsTold 138 = .ok (.if_icmp .ne 7, 3) := by decide +kernel
theorem dX4_isAsTold_141 : decode cX4_isAsTold 141 = .ok (.iconst 1, 1) := by decide +kernel
theorem dX4_isAsTold_142 : decode cX4_isAsTold 142 = .ok (.goto 4, 3) := by decide +kernel
theorem dX4_isAsTold_145 : decode cX4_isAsTold 145 = .ok (.iconst 0, 1) := by decide +kernel
theorem dX4_isAsTold_146 : decode cX4_isAsTold 146 = .ok (.ireturn, 1) := by decide +kernel
theorem dX4_isAsTold_147 : decode cX4_isAsTold 147 = .ok (.aload_n 1, 1) := by decide +kernel
theorem dX4_isAsTold_148 : decode cX4_isAsTold 148 = .ok (.aload_n 0, 1) := by decide +kernel
theorem dX4_isAsTold_149 : decode cX4_isAsTold 149 = .ok (.getfield 18, 3) := by decide +kernel
theorem dX4_isAsTold_152 : decode cX4_isAsTold 152 = .ok (.invokevirtual 36, 3) := by decide +kernel
theorem dX4_isAsTold_155 : decode cX4_isAsTold 155 = .ok (.aload_n 0, 1) := by decide +kernel
theorem dX4_isAsTold_156 : decode cX4_isAsTold 156 = .ok (.getfield 15, 3) := by decide +kernel
theorem dX4_isAsTold_159 : decode cX4_isAsTold 159 = .ok (.if_icmp .ne 7, 3) := by decide +kernel
theorem dX4_isAsTold_162 : decode cX4_isAsTold 162 = .ok (.iconst 1, 1) := by decide +kernel
theorem dX4_isAsTold_163 : decode cX4_isAsTold 163 = .ok (.goto 4, 3) := by decide +kernel
theorem dX4_isAsTold_166 : decode cX4_isAsTold 166 = .ok (.iconst 0, 1) := by decide +kernel
theorem dX4_isAsTold_167 : decode cX4_isAsTold 167 = .ok (.ireturn, 1) := by decide +kernel
theorem dX4_isAsTold_168 : decode cX4_isAsTold 168 = .ok (.iconst 1, 1) := by decide +kernel
theorem dX4_isAsTold_169 : decode cX4_isAsTold 169 = .ok (.ireturn, 1) := by decide +kernel
theorem dX4_priceIn_0 : decode cX4_priceIn 0 = .ok (.bipush 10, 2) := by decide +kernel
theorem dX4_priceIn_2 : decode cX4_priceIn 2 = .ok (.aload_n 1, 1) := by decide +kernel
theorem dX4_priceIn_3 : decode cX4_priceIn 3 = .ok (.aload_n 0, 1) := by decide +kernel
theorem dX4_priceIn_4 : decode cX4_priceIn 4 = .ok (.getfield 18, 3) := by decide +kernel
theorem dX4_priceIn_7 : decode cX4_priceIn 7 = .ok (.invokevirtual 44, 3) := by decide +kernel
theorem dX4_priceIn_10 : decode cX4_priceIn 10 = .ok (.imul, 1) := by decide +kernel
theorem dX4_priceIn_11 : decode cX4_priceIn 11 = .ok (.aload_n 0, 1) := by decide +kernel
theorem dX4_priceIn_12 : decode cX4_priceIn 12 = .ok (.getfield 24, 3) := by decide +kernel
theorem dX4_priceIn_15 : decode cX4_priceIn 15 = .ok (.iadd, 1) := by decide +kernel
theorem dX4_priceIn_16 : decode cX4_priceIn 16 = .ok (.ireturn, 1) := by decide +kernel
theorem dX4_doOn_0 : decode cX4_doOn 0 = .ok (.aload_n 0, 1) := by decide +kernel
theorem dX4_doOn_1 : decode cX4_doOn 1 = .ok (.getfield 9, 3) := by decide +kernel
theorem dX4_doOn_4 : decode cX4_doOn 4 = .ok (.tableswitch 170 1 7 #[44, 72, 84, 57, 96, 127, 141], 44) := by decide +kernel
theorem dX4_doOn_48 : decode cX4_doOn 48 = .ok (.aload_n 0, 1) := by decide +kernel
theorem dX4_doOn_49 : decode cX4_doOn 49 = .ok (.aload_n 1, 1) := by decide +kernel
theorem dX4_doOn_50 : decode cX4_doOn 50 = .ok (.aload_n 0, 1) := by decide +kernel
theorem dX4_doOn_51 : decode cX4_doOn 51 = .ok (.aload_n 1, 1) := by decide +kernel
theorem dX4_doOn_52 : decode cX4_doOn 52 = .ok (.invokevirtual 47, 3) := by decide +kernel
theorem dX4_doOn_55 : decode cX4_doOn 55 = .ok (.invokevirtual 51, 3) := by decide +kernel
theorem dX4_doOn_58 : decode cX4_doOn 58 = .ok (.goto 116, 3) := by decide +kernel
theorem dX4_doOn_61 : decode cX4_doOn 61 = .ok (.aload_n 0, 1) := by decide +kernel
theorem dX4_doOn_62 : decode cX4_doOn 62 = .ok (.aload_n 1, 1) := by decide +kernel
theorem dX4_doOn_63 : decode cX4_doOn 63 = .ok (.iconst 2, 1) := by decide +kernel
theorem dX4_doOn_64 : decode cX4_doOn 64 = .ok (.aload_n 0, 1) := by decide +kernel
theorem dX4_doOn_65 : decode cX4_doOn 65 = .ok (.aload_n 1, 1) := by decide +kernel
theorem dX4_doOn_66 : decode cX4_doOn 66 = .ok (.invokevirtual 47, 3) := by decide +kernel
theorem dX4_doOn_69 : decode cX4_doOn 69 = .ok (.imul, 1) := by decide +kernel
theorem dX4_doOn_70 : decode cX4_doOn 70 = .ok (.invokevirtual 51, 3) := by decide +kernel
theorem dX4_doOn_73 : decode cX4_doOn 73 = .ok (.goto 101, 3) := by decide +kernel
theorem dX4_doOn_76 : decode cX4_doOn 76 = .ok (.aload_n 0, 1) := by decide +kernel
theorem dX4_doOn_77 : decode cX4_doOn 77 = .ok (.aload_n 1, 1) := by decide +kernel
theorem dX4_doOn_78 : decode cX4_doOn 78 = .ok (.aload_n 0, 1) := by decide +kernel
theorem dX4_doOn_79 : decode cX4_doOn 79 = .ok (.getfield 21, 3) := by decide +kernel
theorem dX4_doOn_82 : decode cX4_doOn 82 = .ok (.invokevirtual 55, 3) := by decide +kernel
theorem dX4_doOn_85 : decode cX4_doOn 85 = .ok (.goto 89, 3) := by decide +kernel
theorem dX4_doOn_88 : decode cX4_doOn 88 = .ok (.aload_n 0, 1) := by decide +kernel
theorem dX4_doOn_89 : decode cX4_doOn 89 = .ok (.aload_n 1, 1) := by decide +kernel
theorem dX4_doOn_90 : decode cX4_doOn 90 = .ok (.aload_n 0, 1) := by decide +kernel
theorem dX4_doOn_91 : decode cX4_doOn 91 = .ok (.getfield 24, 3) := by decide +kernel
theorem dX4_doOn_94 : decode cX4_doOn 94 = .ok (.invokevirtual 55, 3) := by decide +kernel
theorem dX4_doOn_97 : decode cX4_doOn 97 = .ok (.goto 77, 3) := by decide +kernel
theorem dX4_doOn_100 : decode cX4_doOn 100 = .ok (.aload_n 1, 1) := by decide +kernel
theorem dX4_doOn_101 : decode cX4_doOn 101 = .ok (.aload_n 0, 1) := by decide +kernel
theorem dX4_doOn_102 : decode cX4_doOn 102 = .ok (.getfield 18, 3) := by decide +kernel
theorem dX4_doOn_105 : decode cX4_doOn 105 = .ok (.aload_n 0, 1) := by decide +kernel
theorem dX4_doOn_106 : decode cX4_doOn 106 = .ok (.getfield 21, 3) := by decide +kernel
theorem dX4_doOn_109 : decode cX4_doOn 109 = .ok (.iconst 2, 1) := by decide +kernel
theorem dX4_doOn_110 : decode cX4_doOn 110 = .ok (.invokevirtual 58, 3) := by decide +kernel
theorem dX4_doOn_113 : decode cX4_doOn 113 = .ok (.aload_n 1, 1) := by decide +kernel
theorem dX4_doOn_114 : decode cX4_doOn 114 = .ok (.aload_n 0, 1) := by decide +kernel
theorem dX4_doOn_115 : decode cX4_doOn 115 = .ok (.getfield 15, 3) := by decide +kernel
theorem dX4_doOn_118 : decode cX4_doOn 118 = .ok (.bipush (-5), 2) := by decide +kernel
theorem dX4_doOn_120 : decode cX4_doOn 120 = .ok (.aload_n 0, 1) := by decide +kernel
theorem dX4_doOn_121 : decode cX4_doOn 121 = .ok (.getfield 24, 3) := by decide +kernel
theorem dX4_doOn_124 : decode cX4_doOn 124 = .ok (.imul, 1) := by decide +kernel
theorem dX4_doOn_125 : decode cX4_doOn 125 = .ok (.invokevirtual 62, 3) := by decide +kernel
theorem dX4_doOn_128 : decode cX4_doOn 128 = .ok (.goto 46, 3) := by decide +kernel
theorem dX4_doOn_131 : decode cX4_doOn 131 = .ok (.aload_n 1, 1) := by decide +kernel
theorem dX4_doOn_132 : decode cX4_doOn 132 = .ok (.bipush 9, 2) := by decide +kernel
theorem dX4_doOn_134 : decode cX4_doOn 134 = .ok (.aload_n 0, 1) := by decide +kernel
theorem dX4_doOn_135 : decode cX4_doOn 135 = .ok (.getfield 18, 3) := by decide +kernel
theorem dX4_doOn_138 : decode cX4_doOn 138 = .ok (.invokevirtual 66, 3) := by decide +kernel
theorem dX4_doOn_141 : decode cX4_doOn 141 = .ok (.pop, 1) := by decide +kernel
theorem dX4_doOn_142 : decode cX4_doOn 142 = .ok (.goto 32, 3) := by decide +kernel
theorem dX4_doOn_145 : decode cX4_doOn 145 = .ok (.aload_n 1, 1) := by decide +kernel
theorem dX4_doOn_146 : decode cX4_doOn 146 = .ok (.bipush 9, 2) := by decide +kernel
theorem dX4_doOn_148 : decode cX4_doOn 148 = .ok (.aload_n 0, 1) := by decide +kernel
theorem dX4_doOn_149 : decode cX4_doOn 149 = .ok (.getfield 18, 3) := by decide +kernel
theorem dX4_doOn_152 : decode cX4_doOn 152 = .ok (.invokevirtual 66, 3) := by decide +kernel
theorem dX4_doOn_155 : decode cX4_doOn 155 = .ok (.pop, 1) := by decide +kernel
theorem dX4_doOn_156 : decode cX4_doOn 156 = .ok (.aload_n 1, 1) := by decide +kernel
theorem dX4_doOn_157 : decode cX4_doOn 157 = .ok (.aload_n 0, 1) := by decide +kernel
theorem dX4_doOn_158 : decode cX4_doOn 158 = .ok (.getfield 15, 3) := by decide +kernel
theorem dX4_doOn_161 : decode cX4_doOn 161 = .ok (.aload_n 0, 1) := by decide +kernel
theorem dX4_doOn_162 : decode cX4_doOn 162 = .ok (.aload_n 1, 1) := by decide +kernel
theorem dX4_doOn_163 : decode cX4_doOn 163 = .ok (.invokevirtual 47, 3) := by decide +kernel
theorem dX4_doOn_166 : decode cX4_doOn 166 = .ok (.iconst 2, 1) := by decide +kernel
theorem dX4_doOn_167 : decode cX4_doOn 167 = .ok (.idiv, 1) := by decide +kernel
theorem dX4_doOn_168 : decode cX4_doOn 168 = .ok (.invokevirtual 62, 3) := by decide +kernel
theorem dX4_doOn_171 : decode cX4_doOn 171 = .ok (.goto 3, 3) := by decide +kernel
theorem dX4_doOn_174 : decode cX4_doOn 174 = .ok (.return_, 1) := by decide +kernel
theorem dX4_buyFor_0 : decode cX4_buyFor 0 = .ok (.aload_n 1, 1) := by decide +kernel
theorem dX4_buyFor_1 : decode cX4_buyFor 1 = .ok (.aload_n 0, 1) := by decide +kernel
theorem dX4_buyFor_2 : decode cX4_buyFor 2 = .ok (.getfield 15, 3) := by decide +kernel
theorem dX4_buyFor_5 : decode cX4_buyFor 5 = .ok (.iload_n 2, 1) := by decide +kernel
theorem dX4_buyFor_6 : decode cX4_buyFor 6 = .ok (.ineg, 1) := by decide +kernel
theorem dX4_buyFor_7 : decode cX4_buyFor 7 = .ok (.invokevirtual 62, 3) := by decide +kernel
theorem dX4_buyFor_10 : decode cX4_buyFor 10 = .ok (.aload_n 1, 1) := by decide +kernel
theorem dX4_buyFor_11 : decode cX4_buyFor 11 = .ok (.aload_n 1, 1) := by decide +kernel
theorem dX4_buyFor_12 : decode cX4_buyFor 12 = .ok (.aload_n 0, 1) := by decide +kernel
theorem dX4_buyFor_13 : decode cX4_buyFor 13 = .ok (.getfield 18, 3) := by decide +kernel
theorem dX4_buyFor_16 : decode cX4_buyFor 16 = .ok (.invokevirtual 36, 3) := by decide +kernel
theorem dX4_buyFor_19 : decode cX4_buyFor 19 = .ok (.iload_n 2, 1) := by decide +kernel
theorem dX4_buyFor_20 : decode cX4_buyFor 20 = .ok (.invokevirtual 62, 3) := by decide +kernel
theorem dX4_buyFor_23 : decode cX4_buyFor 23 = .ok (.aload_n 1, 1) := by decide +kernel
theorem dX4_buyFor_24 : decode cX4_buyFor 24 = .ok (.aload_n 0, 1) := by decide +kernel
theorem dX4_buyFor_25 : decode cX4_buyFor 25 = .ok (.getfield 15, 3) := by decide +kernel
theorem dX4_buyFor_28 : decode cX4_buyFor 28 = .ok (.aload_n 0, 1) := by decide +kernel
theorem dX4_buyFor_29 : decode cX4_buyFor 29 = .ok (.getfield 18, 3) := by decide +kernel
theorem dX4_buyFor_32 : decode cX4_buyFor 32 = .ok (.invokevirtual 66, 3) := by decide +kernel
theorem dX4_buyFor_35 : decode cX4_buyFor 35 = .ok (.pop, 1) := by decide +kernel
theorem dX4_buyFor_36 : decode cX4_buyFor 36 = .ok (.return_, 1) := by decide +kernel
theorem dX4_goRound_0 : decode cX4_goRound 0 = .ok (.aload_n 1, 1) := by decide +kernel
theorem dX4_goRound_1 : decode cX4_goRound 1 = .ok (.aload_n 0, 1) := by decide +kernel
theorem dX4_goRound_2 : decode cX4_goRound 2 = .ok (.getfield 18, 3) := by decide +kernel
theorem dX4_goRound_5 : decode cX4_goRound 5 = .ok (.invokevirtual 36, 3) := by decide +kernel
theorem dX4_goRound_8 : decode cX4_goRound 8 = .ok (.istore_n 3, 1) := by decide +kernel
theorem dX4_goRound_9 : decode cX4_goRound 9 = .ok (.aload_n 1, 1) := by decide +kernel
theorem dX4_goRound_10 : decode cX4_goRound 10 = .ok (.aload_n 0, 1) := by decide +kernel
theorem dX4_goRound_11 : decode cX4_goRound 11 = .ok (.getfield 21, 3) := by decide +kernel
theorem dX4_goRound_14 : decode cX4_goRound 14 = .ok (.invokevirtual 36, 3) := by decide +kernel
theorem dX4_goRound_17 : decode cX4_goRound 17 = .ok (.istore 4, 2) := by decide +kernel
theorem dX4_goRound_19 : decode cX4_goRound 19 = .ok (.aload_n 1, 1) := by decide +kernel
theorem dX4_goRound_20 : decode cX4_goRound 20 = .ok (.iload_n 2, 1) := by decide +kernel
theorem dX4_goRound_21 : decode cX4_goRound 21 = .ok (.invokevirtual 36, 3) := by decide +kernel
theorem dX4_goRound_24 : decode cX4_goRound 24 = .ok (.istore 5, 2) := by decide +kernel
theorem dX4_goRound_26 : decode cX4_goRound 26 = .ok (.aload_n 1, 1) := by decide +kernel
theorem dX4_goRound_27 : decode cX4_goRound 27 = .ok (.iload 5, 2) := by decide +kernel
theorem dX4_goRound_29 : decode cX4_goRound 29 = .ok (.aload_n 0, 1) := by decide +kernel
theorem dX4_goRound_30 : decode cX4_goRound 30 = .ok (.getfield 18, 3) := by decide +kernel
theorem dX4_goRound_33 : decode cX4_goRound 33 = .ok (.invokevirtual 66, 3) := by decide +kernel
theorem dX4_goRound_36 : decode cX4_goRound 36 = .ok (.pop, 1) := by decide +kernel
theorem dX4_goRound_37 : decode cX4_goRound 37 = .ok (.aload_n 1, 1) := by decide +kernel
theorem dX4_goRound_38 : decode cX4_goRound 38 = .ok (.iload 4, 2) := by decide +kernel
theorem dX4_goRound_40 : decode cX4_goRound 40 = .ok (.iload_n 2, 1) := by decide +kernel
theorem dX4_goRound_41 : decode cX4_goRound 41 = .ok (.invokevirtual 66, 3) := by decide +kernel
theorem dX4_goRound_44 : decode cX4_goRound 44 = .ok (.pop, 1) := by decide +kernel
theorem dX4_goRound_45 : decode cX4_goRound 45 = .ok (.aload_n 1, 1) := by decide +kernel
theorem dX4_goRound_46 : decode cX4_goRound 46 = .ok (.iload_n 3, 1) := by decide +kernel
theorem dX4_goRound_47 : decode cX4_goRound 47 = .ok (.aload_n 0, 1) := by decide +kernel
theorem dX4_goRound_48 : decode cX4_goRound 48 = .ok (.getfield 21, 3) := by decide +kernel
theorem dX4_goRound_51 : decode cX4_goRound 51 = .ok (.invokevirtual 66, 3) := by decide +kernel
theorem dX4_goRound_54 : decode cX4_goRound 54 = .ok (.pop, 1) := by decide +kernel
theorem dX4_goRound_55 : decode cX4_goRound 55 = .ok (.return_, 1) := by decide +kernel
theorem dX4_feeAsked_0 : decode cX4_feeAsked 0 = .ok (.iconst 2, 1) := by decide +kernel
theorem dX4_feeAsked_1 : decode cX4_feeAsked 1 = .ok (.aload_n 0, 1) := by decide +kernel
theorem dX4_feeAsked_2 : decode cX4_feeAsked 2 = .ok (.getfield 24, 3) := by decide +kernel
theorem dX4_feeAsked_5 : decode cX4_feeAsked 5 = .ok (.iadd, 1) := by decide +kernel
theorem dX4_feeAsked_6 : decode cX4_feeAsked 6 = .ok (.istore_n 1, 1) := by decide +kernel
theorem dX4_feeAsked_7 : decode cX4_feeAsked 7 = .ok (.bipush 6, 2) := by decide +kernel
theorem dX4_feeAsked_9 : decode cX4_feeAsked 9 = .ok (.istore_n 2, 1) := by decide +kernel
theorem dX4_feeAsked_10 : decode cX4_feeAsked 10 = .ok (.aload_n 0, 1) := by decide +kernel
theorem dX4_feeAsked_11 : decode cX4_feeAsked 11 = .ok (.getfield 9, 3) := by decide +kernel
theorem dX4_feeAsked_14 : decode cX4_feeAsked 14 = .ok (.tableswitch 66 1 7 #[42, 44, 46, 50, 54, 57, 59], 42) := by decide +kernel
theorem dX4_feeAsked_56 : decode cX4_feeAsked 56 = .ok (.iload_n 1, 1) := by decide +kernel
theorem dX4_feeAsked_57 : decode cX4_feeAsked 57 = .ok (.ireturn, 1) := by decide +kernel
theorem dX4_feeAsked_58 : decode cX4_feeAsked 58 = .ok (.iload_n 2, 1) := by decide +kernel
theorem dX4_feeAsked_59 : decode cX4_feeAsked 59 = .ok (.ireturn, 1) := by decide +kernel
theorem dX4_feeAsked_60 : decode cX4_feeAsked 60 = .ok (.iload_n 2, 1) := by decide +kernel
theorem dX4_feeAsked_61 : decode cX4_feeAsked 61 = .ok (.iconst 1, 1) := by decide +kernel
theorem dX4_feeAsked_62 : decode cX4_feeAsked 62 = .ok (.iadd, 1) := by decide +kernel
theorem dX4_feeAsked_63 : decode cX4_feeAsked 63 = .ok (.ireturn, 1) := by decide +kernel
theorem dX4_feeAsked_64 : decode cX4_feeAsked 64 = .ok (.iconst 2, 1) := by decide +kernel
theorem dX4_feeAsked_65 : decode cX4_feeAsked 65 = .ok (.iload_n 1, 1) := by decide +kernel
theorem dX4_feeAsked_66 : decode cX4_feeAsked 66 = .ok (.imul, 1) := by decide +kernel
theorem dX4_feeAsked_67 : decode cX4_feeAsked 67 = .ok (.ireturn, 1) := by decide +kernel
theorem dX4_feeAsked_68 : decode cX4_feeAsked 68 = .ok (.bipush 9, 2) := by decide +kernel
theorem dX4_feeAsked_70 : decode cX4_feeAsked 70 = .ok (.ireturn, 1) := by decide +kernel
theorem dX4_feeAsked_71 : decode cX4_feeAsked 71 = .ok (.iconst 0, 1) := by decide +kernel
theorem dX4_feeAsked_72 : decode cX4_feeAsked 72 = .ok (.ireturn, 1) := by decide +kernel
theorem dX4_feeAsked_73 : decode cX4_feeAsked 73 = .ok (.iload_n 1, 1) := by decide +kernel
theorem dX4_feeAsked_74 : decode cX4_feeAsked 74 = .ok (.aload_n 0, 1) := by decide +kernel
theorem dX4_feeAsked_75 : decode cX4_feeAsked 75 = .ok (.getfield 24, 3) := by decide +kernel
theorem dX4_feeAsked_78 : decode cX4_feeAsked 78 = .ok (.isub, 1) := by decide +kernel
theorem dX4_feeAsked_79 : decode cX4_feeAsked 79 = .ok (.ireturn, 1) := by decide +kernel
theorem dX4_feeAsked_80 : decode cX4_feeAsked 80 = .ok (.iconst 2, 1) := by decide +kernel
theorem dX4_feeAsked_81 : decode cX4_feeAsked 81 = .ok (.ireturn, 1) := by decide +kernel
theorem dX4_throwFailure_0 : decode cX4_throwFailure 0 = .ok (.aload_n 0, 1) := by decide +kernel
theorem dX4_throwFailure_1 : decode cX4_throwFailure 1 = .ok (.getfield 9, 3) := by decide +kernel
theorem dX4_throwFailure_4 : decode cX4_throwFailure 4 = .ok (.bipush 6, 2) := by decide +kernel
theorem dX4_throwFailure_6 : decode cX4_throwFailure 6 = .ok (.if_icmp .eq 20, 3) := by decide +kernel
theorem dX4_throwFailure_9 : decode cX4_throwFailure 9 = .ok (.aload_n 0, 1) := by decide +kernel
theorem dX4_throwFailure_10 : decode cX4_throwFailure 10 = .ok (.getfield 24, 3) := by decide +kernel
theorem dX4_throwFailure_13 : decode cX4_throwFailure 13 = .ok (.ifCond .eq 13, 3) := by decide +kernel
theorem dX4_throwFailure_16 : decode cX4_throwFailure 16 = .ok (.new 70, 3) := by decide +kernel
theorem dX4_throwFailure_19 : decode cX4_throwFailure 19 = .ok (.dup, 1) := by decide +kernel
theorem dX4_throwFailure_20 : decode cX4_throwFailure 20 = .ok (.ldc 72, 2) := by decide +kernel
theorem dX4_throwFailure_22 : decode cX4_throwFailure 22 = .ok (.invokespecial 74, 3) := by decide +kernel
theorem dX4_throwFailure_25 : decode cX4_throwFailure 25 = .ok (.athrow, 1) := by decide +kernel
theorem dX4_throwFailure_26 : decode cX4_throwFailure 26 = .ok (.return_, 1) := by decide +kernel
theorem dX4_failureNumber_0 : decode cX4_failureNumber 0 = .ok (.aload_n 0, 1) := by decide +kernel
theorem dX4_failureNumber_1 : decode cX4_failureNumber 1 = .ok (.getfield 9, 3) := by decide +kernel
theorem dX4_failureNumber_4 : decode cX4_failureNumber 4 = .ok (.bipush 7, 2) := by decide +kernel
theorem dX4_failureNumber_6 : decode cX4_failureNumber 6 = .ok (.if_icmp .ne 12, 3) := by decide +kernel
theorem dX4_failureNumber_9 : decode cX4_failureNumber 9 = .ok (.sipush 200, 3) := by decide +kernel
theorem dX4_failureNumber_12 : decode cX4_failureNumber 12 = .ok (.aload_n 0, 1) := by decide +kernel
theorem dX4_failureNumber_13 : decode cX4_failureNumber 13 = .ok (.invokevirtual 77, 3) := by decide +kernel
theorem dX4_failureNumber_16 : decode cX4_failureNumber 16 = .ok (.iadd, 1) := by decide +kernel
theorem dX4_failureNumber_17 : decode cX4_failureNumber 17 = .ok (.ireturn, 1) := by decide +kernel
theorem dX4_failureNumber_18 : decode cX4_failureNumber 18 = .ok (.aload_n 0, 1) := by decide +kernel
theorem dX4_failureNumber_19 : decode cX4_failureNumber 19 = .ok (.getfield 9, 3) := by decide +kernel
theorem dX4_failureNumber_22 : decode cX4_failureNumber 22 = .ok (.iconst 3, 1) := by decide +kernel
theorem dX4_failureNumber_23 : decode cX4_failureNumber 23 = .ok (.if_icmp .ne 13, 3) := by decide +kernel
theorem dX4_failureNumber_26 : decode cX4_failureNumber 26 = .ok (.aload_n 0, 1) := by decide +kernel
theorem dX4_failureNumber_27 : decode cX4_failureNumber 27 = .ok (.getfield 24, 3) := by decide +kernel
theorem dX4_failureNumber_30 : decode cX4_failureNumber 30 = .ok (.bipush 100, 2) := by decide +kernel
theorem dX4_failureNumber_32 : decode cX4_failureNumber 32 = .ok (.iadd, 1) := by decide +kernel
theorem dX4_failureNumber_33 : decode cX4_failureNumber 33 = .ok (.goto 7, 3) := by decide +kernel
theorem dX4_failureNumber_36 : decode cX4_failureNumber 36 = .ok (.aload_n 0, 1) := by decide +kernel
theorem dX4_failureNumber_37 : decode cX4_failureNumber 37 = .ok (.getfield 24, 3) := by decide +kernel
theorem dX4_failureNumber_40 : decode cX4_failureNumber 40 = .ok (.ireturn, 1) := by decide +kernel
theorem dX5_init_0 : decode cX5_init 0 = .ok (.aload_n 0, 1) := by decide +kernel
theorem dX5_init_1 : decode cX5_init 1 = .ok (.invokespecial 3, 3) := by decide +kernel
theorem dX5_init_4 : decode cX5_init 4 = .ok (.aload_n 0, 1) := by decide +kernel
theorem dX5_init_5 : decode cX5_init 5 = .ok (.bipush 6, 2) := by decide +kernel
theorem dX5_init_7 : decode cX5_init 7 = .ok (.newarray .int, 2) := by decide +kernel
theorem dX5_init_9 : decode cX5_init 9 = .ok (.putfield 9, 3) := by decide +kernel
theorem dX5_init_12 : decode cX5_init 12 = .ok (.return_, 1) := by decide +kernel
theorem dX5_fewestFor_0 : decode cX5_fewestFor 0 = .ok (.iconst 0, 1) := by decide +kernel
theorem dX5_fewestFor_1 : decode cX5_fewestFor 1 = .ok (.istore_n 2, 1) := by decide +kernel
theorem dX5_fewestFor_2 : decode cX5_fewestFor 2 = .ok (.iload_n 2, 1) := by decide +kernel
theorem dX5_fewestFor_3 : decode cX5_fewestFor 3 = .ok (.bipush 6, 2) := by decide +kernel
theorem dX5_fewestFor_5 : decode cX5_fewestFor 5 = .ok (.if_icmp .ge 21, 3) := by decide +kernel
theorem dX5_fewestFor_8 : decode cX5_fewestFor 8 = .ok (.aload_n 0, 1) := by decide +kernel
theorem dX5_fewestFor_9 : decode cX5_fewestFor 9 = .ok (.aload_n 1, 1) := by decide +kernel
theorem dX5_fewestFor_10 : decode cX5_fewestFor 10 = .ok (.iconst 0, 1) := by decide +kernel
theorem dX5_fewestFor_11 : decode cX5_fewestFor 11 = .ok (.iload_n 2, 1) := by decide +kernel
theorem dX5_fewestFor_12 : decode cX5_fewestFor 12 = .ok (.invokestatic 15, 3) := by decide +kernel
theorem dX5_fewestFor_15 : decode cX5_fewestFor 15 = .ok (.ifCond .eq 5, 3) := by decide +kernel
theorem dX5_fewestFor_18 : decode cX5_fewestFor 18 = .ok (.iload_n 2, 1) := by decide +kernel
theorem dX5_fewestFor_19 : decode cX5_fewestFor 19 = .ok (.ireturn, 1) := by decide +kernel
theorem dX5_fewestFor_20 : decode cX5_fewestFor 20 = .ok (.iinc 2 1, 3) := by decide +kernel
theorem dX5_fewestFor_23 : decode cX5_fewestFor 23 = .ok (.goto (-21), 3) := by decide +kernel
theorem dX5_fewestFor_26 : decode cX5_fewestFor 26 = .ok (.aload_n 0, 1) := by decide +kernel
theorem dX5_fewestFor_27 : decode cX5_fewestFor 27 = .ok (.aload_n 1, 1) := by decide +kernel
theorem dX5_fewestFor_28 : decode cX5_fewestFor 28 = .ok (.iconst 0, 1) := by decide +kernel
theorem dX5_fewestFor_29 : decode cX5_fewestFor 29 = .ok (.bipush 6, 2) := by decide +kernel
theorem dX5_fewestFor_31 : decode cX5_fewestFor 31 = .ok (.invokestatic 15, 3) := by decide +kernel
theorem dX5_fewestFor_34 : decode cX5_fewestFor 34 = .ok (.pop, 1) := by decide +kernel
theorem dX5_fewestFor_35 : decode cX5_fewestFor 35 = .ok (.bipush 6, 2) := by decide +kernel
theorem dX5_fewestFor_37 : decode cX5_fewestFor 37 = .ok (.ireturn, 1) := by decide +kernel
theorem dX5_numberOf_0 : decode cX5_numberOf 0 = .ok (.iload_n 1, 1) := by decide +kernel
theorem dX5_numberOf_1 : decode cX5_numberOf 1 = .ok (.ifCond .lt 21, 3) := by decide +kernel
theorem dX5_numberOf_4 : decode cX5_numberOf 4 = .ok (.iload_n 1, 1) := by decide +kernel
theorem dX5_numberOf_5 : decode cX5_numberOf 5 = .ok (.aload_n 0, 1) := by decide +kernel
theorem dX5_numberOf_6 : decode cX5_numberOf 6 = .ok (.getfield 9, 3) := by decide +kernel
theorem dX5_numberOf_9 : decode cX5_numberOf 9 = .ok (.arraylength, 1) := by decide +kernel
theorem dX5_numberOf_10 : decode cX5_numberOf 10 = .ok (.if_icmp .ge 12, 3) := by decide +kernel
theorem dX5_numberOf_13 : decode cX5_numberOf 13 = .ok (.aload_n 0, 1) := by decide +kernel
theorem dX5_numberOf_14 : decode cX5_numberOf 14 = .ok (.getfield 9, 3) := by decide +kernel
theorem dX5_numberOf_17 : decode cX5_numberOf 17 = .ok (.iload_n 1, 1) := by decide +kernel
theorem dX5_numberOf_18 : decode cX5_numberOf 18 = .ok (.iaload, 1) := by decide +kernel
theorem dX5_numberOf_19 : decode cX5_numberOf 19 = .ok (.goto 4, 3) := by decide +kernel
theorem dX5_numberOf_22 : decode cX5_numberOf 22 = .ok (.iconst 0, 1) := by decide +kernel
theorem dX5_numberOf_23 : decode cX5_numberOf 23 = .ok (.ireturn, 1) := by decide +kernel
theorem dX5_numberFrom_0 : decode cX5_numberFrom 0 = .ok (.iload_n 2, 1) := by decide +kernel
theorem dX5_numberFrom_1 : decode cX5_numberFrom 1 = .ok (.ifCond .lt 17, 3) := by decide +kernel
theorem dX5_numberFrom_4 : decode cX5_numberFrom 4 = .ok (.iload_n 2, 1) := by decide +kernel
theorem dX5_numberFrom_5 : decode cX5_numberFrom 5 = .ok (.bipush 6, 2) := by decide +kernel
theorem dX5_numberFrom_7 : decode cX5_numberFrom 7 = .ok (.if_icmp .ge 11, 3) := by decide +kernel
theorem dX5_numberFrom_10 : decode cX5_numberFrom 10 = .ok (.iload_n 2, 1) := by decide +kernel
theorem dX5_numberFrom_11 : decode cX5_numberFrom 11 = .ok (.aload_n 1, 1) := by decide +kernel
theorem dX5_numberFrom_12 : decode cX5_numberFrom 12 = .ok (.getfield 19, 3) := by decide +kernel
theorem dX5_numberFrom_15 : decode cX5_numberFrom 15 = .ok (.if_icmp .lt 5, 3) := by decide +kernel
theorem dX5_numberFrom_18 : decode cX5_numberFrom 18 = .ok (.iconst 1, 1) := by decide +kernel
theorem dX5_numberFrom_19 : decode cX5_numberFrom 19 = .ok (.ireturn, 1) := by decide +kernel
theorem dX5_numberFrom_20 : decode cX5_numberFrom 20 = .ok (.iconst 0, 1) := by decide +kernel
theorem dX5_numberFrom_21 : decode cX5_numberFrom 21 = .ok (.istore 4, 2) := by decide +kernel
theorem dX5_numberFrom_23 : decode cX5_numberFrom 23 = .ok (.iload 4, 2) := by decide +kernel
theorem dX5_numberFrom_25 : decode cX5_numberFrom 25 = .ok (.iload_n 3, 1) := by decide +kernel
theorem dX5_numberFrom_26 : decode cX5_numberFrom 26 = .ok (.if_icmp .ge 42, 3) := by decide +kernel
theorem dX5_numberFrom_29 : decode cX5_numberFrom 29 = .ok (.aload_n 0, 1) := by decide +kernel
theorem dX5_numberFrom_30 : decode cX5_numberFrom 30 = .ok (.aload_n 1, 1) := by decide +kernel
theorem dX5_numberFrom_31 : decode cX5_numberFrom 31 = .ok (.iload_n 2, 1) := by decide +kernel
theorem dX5_numberFrom_32 : decode cX5_numberFrom 32 = .ok (.iload 4, 2) := by decide +kernel
theorem dX5_numberFrom_34 : decode cX5_numberFrom 34 = .ok (.invokevirtual 25, 3) := by decide +kernel
theorem dX5_numberFrom_37 : decode cX5_numberFrom 37 = .ok (.ifCond .eq 25, 3) := by decide +kernel
theorem dX5_numberFrom_40 : decode cX5_numberFrom 40 = .ok (.aload_n 0, 1) := by decide +kernel
theorem dX5_numberFrom_41 : decode cX5_numberFrom 41 = .ok (.getfield 9, 3) := by decide +kernel
theorem dX5_numberFrom_44 : decode cX5_numberFrom 44 = .ok (.iload_n 2, 1) := by decide +kernel
theorem dX5_numberFrom_45 : decode cX5_numberFrom 45 = .ok (.iload 4, 2) := by decide +kernel
theorem dX5_numberFrom_47 : decode cX5_numberFrom 47 = .ok (.iastore, 1) := by decide +kernel
theorem dX5_numberFrom_48 : decode cX5_numberFrom 48 = .ok (.aload_n 0, 1) := by decide +kernel
theorem dX5_numberFrom_49 : decode cX5_numberFrom 49 = .ok (.aload_n 1, 1) := by decide +kernel
theorem dX5_numberFrom_50 : decode cX5_numberFrom 50 = .ok (.iload_n 2, 1) := by decide +kernel
theorem dX5_numberFrom_51 : decode cX5_numberFrom 51 = .ok (.iconst 1, 1) := by decide +kernel
theorem dX5_numberFrom_52 : decode cX5_numberFrom 52 = .ok (.iadd, 1) := by decide +kernel
theorem dX5_numberFrom_53 : decode cX5_numberFrom 53 = .ok (.iload_n 3, 1) := by decide +kernel
theorem dX5_numberFrom_54 : decode cX5_numberFrom 54 = .ok (.invokestatic 15, 3) := by decide +kernel
theorem dX5_numberFrom_57 : decode cX5_numberFrom 57 = .ok (.ifCond .eq 5, 3) := by decide +kernel
theorem dX5_numberFrom_60 : decode cX5_numberFrom 60 = .ok (.iconst 1, 1) := by decide +kernel
theorem dX5_numberFrom_61 : decode cX5_numberFrom 61 = .ok (.ireturn, 1) := by decide +kernel
theorem dX5_numberFrom_62 : decode cX5_numberFrom 62 = .ok (.iinc 4 1, 3) := by decide +kernel
theorem dX5_numberFrom_65 : decode cX5_numberFrom 65 = .ok (.goto (-42), 3) := by decide +kernel
theorem dX5_numberFrom_68 : decode cX5_numberFrom 68 = .ok (.iconst 0, 1) := by decide +kernel
theorem dX5_numberFrom_69 : decode cX5_numberFrom 69 = .ok (.ireturn, 1) := by decide +kernel
theorem dX5_canHave_0 : decode cX5_canHave 0 = .ok (.iconst 0, 1) := by decide +kernel
theorem dX5_canHave_1 : decode cX5_canHave 1 = .ok (.istore 4, 2) := by decide +kernel
theorem dX5_canHave_3 : decode cX5_canHave 3 = .ok (.iload 4, 2) := by decide +kernel
theorem dX5_canHave_5 : decode cX5_canHave 5 = .ok (.iload_n 2, 1) := by decide +kernel
theorem dX5_canHave_6 : decode cX5_canHave 6 = .ok (.if_icmp .ge 42, 3) := by decide +kernel
theorem dX5_canHave_9 : decode cX5_canHave 9 = .ok (.iload 4, 2) := by decide +kernel
theorem dX5_canHave_11 : decode cX5_canHave 11 = .ok (.aload_n 0, 1) := by decide +kernel
theorem dX5_canHave_12 : decode cX5_canHave 12 = .ok (.getfield 9, 3) := by decide +kernel
theorem dX5_canHave_15 : decode cX5_canHave 15 = .ok (.arraylength, 1) := by decide +kernel
theorem dX5_canHave_16 : decode cX5_canHave 16 = .ok (.if_icmp .ge 32, 3) := by decide +kernel
theorem dX5_canHave_19 : decode cX5_canHave 19 = .ok (.aload_n 0, 1) := by decide +kernel
theorem dX5_canHave_20 : decode cX5_canHave 20 = .ok (.getfield 9, 3) := by decide +kernel
theorem dX5_canHave_23 : decode cX5_canHave 23 = .ok (.iload 4, 2) := by decide +kernel
theorem dX5_canHave_25 : decode cX5_canHave 25 = .ok (.iaload, 1) := by decide +kernel
theorem dX5_canHave_26 : decode cX5_canHave 26 = .ok (.iload_n 3, 1) := by decide +kernel
theorem dX5_canHave_27 : decode cX5_canHave 27 = .ok (.if_icmp .ne 15, 3) := by decide +kernel
theorem dX5_canHave_30 : decode cX5_canHave 30 = .ok (.aload_n 1, 1) := by decide +kernel
theorem dX5_canHave_31 : decode cX5_canHave 31 = .ok (.iload 4, 2) := by decide +kernel
theorem dX5_canHave_33 : decode cX5_canHave 33 = .ok (.iload_n 2, 1) := by decide +kernel
theorem dX5_canHave_34 : decode cX5_canHave 34 = .ok (.invokevirtual 29, 3) := by decide +kernel
theorem dX5_canHave_37 : decode cX5_canHave 37 = .ok (.ifCond .eq 5, 3) := by decide +kernel
theorem dX5_canHave_40 : decode cX5_canHave 40 = .ok (.iconst 0, 1) := by decide +kernel
theorem dX5_canHave_41 : decode cX5_canHave 41 = .ok (.ireturn, 1) := by decide +kernel
theorem dX5_canHave_42 : decode cX5_canHave 42 = .ok (.iinc 4 1, 3) := by decide +kernel
theorem dX5_canHave_45 : decode cX5_canHave 45 = .ok (.goto (-42), 3) := by decide +kernel
theorem dX5_canHave_48 : decode cX5_canHave 48 = .ok (.iconst 1, 1) := by decide +kernel
theorem dX5_canHave_49 : decode cX5_canHave 49 = .ok (.ireturn, 1) := by decide +kernel
theorem dX6_init_0 : decode cX6_init 0 = .ok (.aload_n 0, 1) := by decide +kernel
theorem dX6_init_1 : decode cX6_init 1 = .ok (.invokespecial 3, 3) := by decide +kernel
theorem dX6_init_4 : decode cX6_init 4 = .ok (.aload_n 0, 1) := by decide +kernel
theorem dX6_init_5 : decode cX6_init 5 = .ok (.bipush 6, 2) := by decide +kernel
theorem dX6_init_7 : decode cX6_init 7 = .ok (.newarray .int, 2) := by decide +kernel
theorem dX6_init_9 : decode cX6_init 9 = .ok (.putfield 9, 3) := by decide +kernel
theorem dX6_init_12 : decode cX6_init 12 = .ok (.return_, 1) := by decide +kernel
theorem dX6_winningField_0 : decode cX6_winningField 0 = .ok (.aload_n 1, 1) := by decide +kernel
theorem dX6_winningField_1 : decode cX6_winningField 1 = .ok (.aload_n 0, 1) := by decide +kernel
theorem dX6_winningField_2 : decode cX6_winningField 2 = .ok (.getfield 9, 3) := by decide +kernel
theorem dX6_winningField_5 : decode cX6_winningField 5 = .ok (.invokevirtual 15, 3) := by decide +kernel
theorem dX6_winningField_8 : decode cX6_winningField 8 = .ok (.aload_n 0, 1) := by decide +kernel
theorem dX6_winningField_9 : decode cX6_winningField 9 = .ok (.getfield 9, 3) := by decide +kernel
theorem dX6_winningField_12 : decode cX6_winningField 12 = .ok (.aload_n 1, 1) := by decide +kernel
theorem dX6_winningField_13 : decode cX6_winningField 13 = .ok (.iconst 0, 1) := by decide +kernel
theorem dX6_winningField_14 : decode cX6_winningField 14 = .ok (.invokevirtual 21, 3) := by decide +kernel
theorem dX6_winningField_17 : decode cX6_winningField 17 = .ok (.aload_n 1, 1) := by decide +kernel
theorem dX6_winningField_18 : decode cX6_winningField 18 = .ok (.iconst 1, 1) := by decide +kernel
theorem dX6_winningField_19 : decode cX6_winningField 19 = .ok (.invokevirtual 21, 3) := by decide +kernel
theorem dX6_winningField_22 : decode cX6_winningField 22 = .ok (.aload_n 1, 1) := by decide +kernel
theorem dX6_winningField_23 : decode cX6_winningField 23 = .ok (.bipush 9, 2) := by decide +kernel
theorem dX6_winningField_25 : decode cX6_winningField 25 = .ok (.invokevirtual 21, 3) := by decide +kernel
theorem dX6_winningField_28 : decode cX6_winningField 28 = .ok (.iconst 0, 1) := by decide +kernel
theorem dX6_winningField_29 : decode cX6_winningField 29 = .ok (.invokestatic 25, 3) := by decide +kernel
theorem dX6_winningField_32 : decode cX6_winningField 32 = .ok (.ireturn, 1) := by decide +kernel
theorem dX6_lead_0 : decode cX6_lead 0 = .ok (.aload_n 1, 1) := by decide +kernel
theorem dX6_lead_1 : decode cX6_lead 1 = .ok (.aload_n 0, 1) := by decide +kernel
theorem dX6_lead_2 : decode cX6_lead 2 = .ok (.getfield 9, 3) := by decide +kernel
theorem dX6_lead_5 : decode cX6_lead 5 = .ok (.invokevirtual 15, 3) := by decide +kernel
theorem dX6_lead_8 : decode cX6_lead 8 = .ok (.aload_n 0, 1) := by decide +kernel
theorem dX6_lead_9 : decode cX6_lead 9 = .ok (.getfield 9, 3) := by decide +kernel
theorem dX6_lead_12 : decode cX6_lead 12 = .ok (.aload_n 1, 1) := by decide +kernel
theorem dX6_lead_13 : decode cX6_lead 13 = .ok (.iconst 0, 1) := by decide +kernel
theorem dX6_lead_14 : decode cX6_lead 14 = .ok (.invokevirtual 21, 3) := by decide +kernel
theorem dX6_lead_17 : decode cX6_lead 17 = .ok (.aload_n 1, 1) := by decide +kernel
theorem dX6_lead_18 : decode cX6_lead 18 = .ok (.iconst 1, 1) := by decide +kernel
theorem dX6_lead_19 : decode cX6_lead 19 = .ok (.invokevirtual 21, 3) := by decide +kernel
theorem dX6_lead_22 : decode cX6_lead 22 = .ok (.aload_n 1, 1) := by decide +kernel
theorem dX6_lead_23 : decode cX6_lead 23 = .ok (.bipush 9, 2) := by decide +kernel
theorem dX6_lead_25 : decode cX6_lead 25 = .ok (.invokevirtual 21, 3) := by decide +kernel
theorem dX6_lead_28 : decode cX6_lead 28 = .ok (.iconst 0, 1) := by decide +kernel
theorem dX6_lead_29 : decode cX6_lead 29 = .ok (.invokestatic 29, 3) := by decide +kernel
theorem dX6_lead_32 : decode cX6_lead 32 = .ok (.ireturn, 1) := by decide +kernel
theorem dX6_winningFrom_0 : decode cX6_winningFrom 0 = .ok (.iload 4, 2) := by decide +kernel
theorem dX6_winningFrom_2 : decode cX6_winningFrom 2 = .ok (.bipush 14, 2) := by decide +kernel
theorem dX6_winningFrom_4 : decode cX6_winningFrom 4 = .ok (.if_icmp .le 6, 3) := by decide +kernel
theorem dX6_winningFrom_7 : decode cX6_winningFrom 7 = .ok (.bipush (-4), 2) := by decide +kernel
theorem dX6_winningFrom_9 : decode cX6_winningFrom 9 = .ok (.ireturn, 1) := by decide +kernel
theorem dX6_winningFrom_10 : decode cX6_winningFrom 10 = .ok (.iconst 0, 1) := by decide +kernel
theorem dX6_winningFrom_11 : decode cX6_winningFrom 11 = .ok (.istore 5, 2) := by decide +kernel
theorem dX6_winningFrom_13 : decode cX6_winningFrom 13 = .ok (.iload 5, 2) := by decide +kernel
theorem dX6_winningFrom_15 : decode cX6_winningFrom 15 = .ok (.aload_n 0, 1) := by decide +kernel
theorem dX6_winningFrom_16 : decode cX6_winningFrom 16 = .ok (.arraylength, 1) := by decide +kernel
theorem dX6_winningFrom_17 : decode cX6_winningFrom 17 = .ok (.if_icmp .ge 58, 3) := by decide +kernel
theorem dX6_winningFrom_20 : decode cX6_winningFrom 20 = .ok (.iconst 1, 1) := by decide +kernel
theorem dX6_winningFrom_21 : decode cX6_winningFrom 21 = .ok (.iload 5, 2) := by decide +kernel
theorem dX6_winningFrom_23 : decode cX6_winningFrom 23 = .ok (.ishl, 1) := by decide +kernel
theorem dX6_winningFrom_24 : decode cX6_winningFrom 24 = .ok (.istore 6, 2) := by decide +kernel
theorem dX6_winningFrom_26 : decode cX6_winningFrom 26 = .ok (.iload_n 3, 1) := by decide +kernel
theorem dX6_winningFrom_27 : decode cX6_winningFrom 27 = .ok (.iload 6, 2) := by decide +kernel
theorem dX6_winningFrom_29 : decode cX6_winningFrom 29 = .ok (.iand, 1) := by decide +kernel
theorem dX6_winningFrom_30 : decode cX6_winningFrom 30 = .ok (.ifCond .eq 39, 3) := by decide +kernel
theorem dX6_winningFrom_33 : decode cX6_winningFrom 33 = .ok (.aload_n 0, 1) := by decide +kernel
theorem dX6_winningFrom_34 : decode cX6_winningFrom 34 = .ok (.iload 5, 2) := by decide +kernel
theorem dX6_winningFrom_36 : decode cX6_winningFrom 36 = .ok (.iaload, 1) := by decide +kernel
theorem dX6_winningFrom_37 : decode cX6_winningFrom 37 = .ok (.iload_n 1, 1) := by decide +kernel
theorem dX6_winningFrom_38 : decode cX6_winningFrom 38 = .ok (.iand, 1) := by decide +kernel
theorem dX6_winningFrom_39 : decode cX6_winningFrom 39 = .ok (.ifCond .ne 30, 3) := by decide +kernel
theorem dX6_winningFrom_42 : decode cX6_winningFrom 42 = .ok (.aload_n 0, 1) := by decide +kernel
theorem dX6_winningFrom_43 : decode cX6_winningFrom 43 = .ok (.iload_n 2, 1) := by decide +kernel
theorem dX6_winningFrom_44 : decode cX6_winningFrom 44 = .ok (.iload_n 1, 1) := by decide +kernel
theorem dX6_winningFrom_45 : decode cX6_winningFrom 45 = .ok (.iload 6, 2) := by decide +kernel
theorem dX6_winningFrom_47 : decode cX6_winningFrom 47 = .ok (.ior, 1) := by decide +kernel
theorem dX6_winningFrom_48 : decode cX6_winningFrom 48 = .ok (.iload_n 3, 1) := by decide +kernel
theorem dX6_winningFrom_49 : decode cX6_winningFrom 49 = .ok (.iload 6, 2) := by decide +kernel
theorem dX6_winningFrom_51 : decode cX6_winningFrom 51 = .ok (.iconst (-1), 1) := by decide +kernel
theorem dX6_winningFrom_52 : decode cX6_winningFrom 52 = .ok (.ixor, 1) := by decide +kernel
theorem dX6_winningFrom_53 : decode cX6_winningFrom 53 = .ok (.iand, 1) := by decide +kernel
theorem dX6_winningFrom_54 : decode cX6_winningFrom 54 = .ok (.iload 4, 2) := by decide +kernel
theorem dX6_winningFrom_56 : decode cX6_winningFrom 56 = .ok (.iconst 1, 1) := by decide +kernel
theorem dX6_winningFrom_57 : decode cX6_winningFrom 57 = .ok (.iadd, 1) := by decide +kernel
theorem dX6_winningFrom_58 : decode cX6_winningFrom 58 = .ok (.invokestatic 25, 3) := by decide +kernel
theorem dX6_winningFrom_61 : decode cX6_winningFrom 61 = .ok (.bipush (-4), 2) := by decide +kernel
theorem dX6_winningFrom_63 : decode cX6_winningFrom 63 = .ok (.if_icmp .ne 6, 3) := by decide +kernel
theorem dX6_winningFrom_66 : decode cX6_winningFrom 66 = .ok (.iload 5, 2) := by decide +kernel
theorem dX6_winningFrom_68 : decode cX6_winningFrom 68 = .ok (.ireturn, 1) := by decide +kernel
theorem dX6_winningFrom_69 : decode cX6_winningFrom 69 = .ok (.iinc 5 1, 3) := by decide +kernel
theorem dX6_winningFrom_72 : decode cX6_winningFrom 72 = .ok (.goto (-59), 3) := by decide +kernel
theorem dX6_winningFrom_75 : decode cX6_winningFrom 75 = .ok (.bipush (-4), 2) := by decide +kernel
theorem dX6_winningFrom_77 : decode cX6_winningFrom 77 = .ok (.ireturn, 1) := by decide +kernel
theorem dX6_leadFrom_0 : decode cX6_leadFrom 0 = .ok (.iload 4, 2) := by decide +kernel
theorem dX6_leadFrom_2 : decode cX6_leadFrom 2 = .ok (.bipush 14, 2) := by decide +kernel
theorem dX6_leadFrom_4 : decode cX6_leadFrom 4 = .ok (.if_icmp .le 5, 3) := by decide +kernel
theorem dX6_leadFrom_7 : decode cX6_leadFrom 7 = .ok (.iconst 0, 1) := by decide +kernel
theorem dX6_leadFrom_8 : decode cX6_leadFrom 8 = .ok (.ireturn, 1) := by decide +kernel
theorem dX6_leadFrom_9 : decode cX6_leadFrom 9 = .ok (.aload_n 0, 1) := by decide +kernel
theorem dX6_leadFrom_10 : decode cX6_leadFrom 10 = .ok (.iload_n 1, 1) := by decide +kernel
theorem dX6_leadFrom_11 : decode cX6_leadFrom 11 = .ok (.iload_n 3, 1) := by decide +kernel
theorem dX6_leadFrom_12 : decode cX6_leadFrom 12 = .ok (.invokestatic 32, 3) := by decide +kernel
theorem dX6_leadFrom_15 : decode cX6_leadFrom 15 = .ok (.ifCond .ne 41, 3) := by decide +kernel
theorem dX6_leadFrom_18 : decode cX6_leadFrom 18 = .ok (.aload_n 0, 1) := by decide +kernel
theorem dX6_leadFrom_19 : decode cX6_leadFrom 19 = .ok (.iload_n 2, 1) := by decide +kernel
theorem dX6_leadFrom_20 : decode cX6_leadFrom 20 = .ok (.iload_n 3, 1) := by decide +kernel
theorem dX6_leadFrom_21 : decode cX6_leadFrom 21 = .ok (.invokestatic 32, 3) := by decide +kernel
theorem dX6_leadFrom_24 : decode cX6_leadFrom 24 = .ok (.ifCond .ne 7, 3) := by decide +kernel
theorem dX6_leadFrom_27 : decode cX6_leadFrom 27 = .ok (.iconst 1, 1) := by decide +kernel
theorem dX6_leadFrom_28 : decode cX6_leadFrom 28 = .ok (.goto 4, 3) := by decide +kernel
theorem dX6_leadFrom_31 : decode cX6_leadFrom 31 = .ok (.iconst 0, 1) := by decide +kernel
theorem dX6_leadFrom_32 : decode cX6_leadFrom 32 = .ok (.istore 5, 2) := by decide +kernel
theorem dX6_leadFrom_34 : decode cX6_leadFrom 34 = .ok (.iload 5, 2) := by decide +kernel
theorem dX6_leadFrom_36 : decode cX6_leadFrom 36 = .ok (.ifCond .eq 7, 3) := by decide +kernel
theorem dX6_leadFrom_39 : decode cX6_leadFrom 39 = .ok (.iconst 0, 1) := by decide +kernel
theorem dX6_leadFrom_40 : decode cX6_leadFrom 40 = .ok (.goto 15, 3) := by decide +kernel
theorem dX6_leadFrom_43 : decode cX6_leadFrom 43 = .ok (.aload_n 0, 1) := by decide +kernel
theorem dX6_leadFrom_44 : decode cX6_leadFrom 44 = .ok (.iload_n 2, 1) := by decide +kernel
theorem dX6_leadFrom_45 : decode cX6_leadFrom 45 = .ok (.iload_n 1, 1) := by decide +kernel
theorem dX6_leadFrom_46 : decode cX6_leadFrom 46 = .ok (.iload_n 3, 1) := by decide +kernel
theorem dX6_leadFrom_47 : decode cX6_leadFrom 47 = .ok (.iload 4, 2) := by decide +kernel
theorem dX6_leadFrom_49 : decode cX6_leadFrom 49 = .ok (.iconst 1, 1) := by decide +kernel
theorem dX6_leadFrom_50 : decode cX6_leadFrom 50 = .ok (.iadd, 1) := by decide +kernel
theorem dX6_leadFrom_51 : decode cX6_leadFrom 51 = .ok (.invokestatic 29, 3) := by decide +kernel
theorem dX6_leadFrom_54 : decode cX6_leadFrom 54 = .ok (.ineg, 1) := by decide +kernel
theorem dX6_leadFrom_55 : decode cX6_leadFrom 55 = .ok (.ireturn, 1) := by decide +kernel
theorem dX6_leadFrom_56 : decode cX6_leadFrom 56 = .ok (.bipush (-6), 2) := by decide +kernel
theorem dX6_leadFrom_58 : decode cX6_leadFrom 58 = .ok (.istore 5, 2) := by decide +kernel
theorem dX6_leadFrom_60 : decode cX6_leadFrom 60 = .ok (.iconst 0, 1) := by decide +kernel
theorem dX6_leadFrom_61 : decode cX6_leadFrom 61 = .ok (.istore 6, 2) := by decide +kernel
theorem dX6_leadFrom_63 : decode cX6_leadFrom 63 = .ok (.iload 6, 2) := by decide +kernel
theorem dX6_leadFrom_65 : decode cX6_leadFrom 65 = .ok (.aload_n 0, 1) := by decide +kernel
theorem dX6_leadFrom_66 : decode cX6_leadFrom 66 = .ok (.arraylength, 1) := by decide +kernel
theorem dX6_leadFrom_67 : decode cX6_leadFrom 67 = .ok (.if_icmp .ge 63, 3) := by decide +kernel
theorem dX6_leadFrom_70 : decode cX6_leadFrom 70 = .ok (.iconst 1, 1) := by decide +kernel
theorem dX6_leadFrom_71 : decode cX6_leadFrom 71 = .ok (.iload 6, 2) := by decide +kernel
theorem dX6_leadFrom_73 : decode cX6_leadFrom 73 = .ok (.ishl, 1) := by decide +kernel
theorem dX6_leadFrom_74 : decode cX6_leadFrom 74 = .ok (.istore 7, 2) := by decide +kernel
theorem dX6_leadFrom_76 : decode cX6_leadFrom 76 = .ok (.iload_n 3, 1) := by decide +kernel
theorem dX6_leadFrom_77 : decode cX6_leadFrom 77 = .ok (.iload 7, 2) := by decide +kernel
theorem dX6_leadFrom_79 : decode cX6_leadFrom 79 = .ok (.iand, 1) := by decide +kernel
theorem dX6_leadFrom_80 : decode cX6_leadFrom 80 = .ok (.ifCond .eq 44, 3) := by decide +kernel
theorem dX6_leadFrom_83 : decode cX6_leadFrom 83 = .ok (.aload_n 0, 1) := by decide +kernel
theorem dX6_leadFrom_84 : decode cX6_leadFrom 84 = .ok (.iload 6, 2) := by decide +kernel
theorem dX6_leadFrom_86 : decode cX6_leadFrom 86 = .ok (.iaload, 1) := by decide +kernel
theorem dX6_leadFrom_87 : decode cX6_leadFrom 87 = .ok (.iload_n 1, 1) := by decide +kernel
theorem dX6_leadFrom_88 : decode cX6_leadFrom 88 = .ok (.iand, 1) := by decide +kernel
theorem dX6_leadFrom_89 : decode cX6_leadFrom 89 = .ok (.ifCond .ne 35, 3) := by decide +kernel
theorem dX6_leadFrom_92 : decode cX6_leadFrom 92 = .ok (.aload_n 0, 1) := by decide +kernel
theorem dX6_leadFrom_93 : decode cX6_leadFrom 93 = .ok (.iload_n 2, 1) := by decide +kernel
theorem dX6_leadFrom_94 : decode cX6_leadFrom 94 = .ok (.iload_n 1, 1) := by decide +kernel
theorem dX6_leadFrom_95 : decode cX6_leadFrom 95 = .ok (.iload 7, 2) := by decide +kernel
theorem dX6_leadFrom_97 : decode cX6_leadFrom 97 = .ok (.ior, 1) := by decide +kernel
theorem dX6_leadFrom_98 : decode cX6_leadFrom 98 = .ok (.iload_n 3, 1) := by decide +kernel
theorem dX6_leadFrom_99 : decode cX6_leadFrom 99 = .ok (.iload 7, 2) := by decide +kernel
theorem dX6_leadFrom_101 : decode cX6_leadFrom 101 = .ok (.iconst (-1), 1) := by decide +kernel
theorem dX6_leadFrom_102 : decode cX6_leadFrom 102 = .ok (.ixor, 1) := by decide +kernel
theorem dX6_leadFrom_103 : decode cX6_leadFrom 103 = .ok (.iand, 1) := by decide +kernel
theorem dX6_leadFrom_104 : decode cX6_leadFrom 104 = .ok (.iload 4, 2) := by decide +kernel
theorem dX6_leadFrom_106 : decode cX6_leadFrom 106 = .ok (.iconst 1, 1) := by decide +kernel
theorem dX6_leadFrom_107 : decode cX6_leadFrom 107 = .ok (.iadd, 1) := by decide +kernel
theorem dX6_leadFrom_108 : decode cX6_leadFrom 108 = .ok (.invokestatic 29, 3) := by decide +kernel
theorem dX6_leadFrom_111 : decode cX6_leadFrom 111 = .ok (.istore 8, 2) := by decide +kernel
theorem dX6_leadFrom_113 : decode cX6_leadFrom 113 = .ok (.iload 5, 2) := by decide +kernel
theorem dX6_leadFrom_115 : decode cX6_leadFrom 115 = .ok (.iconst 1, 1) := by decide +kernel
theorem dX6_leadFrom_116 : decode cX6_leadFrom 116 = .ok (.iload 8, 2) := by decide +kernel
theorem dX6_leadFrom_118 : decode cX6_leadFrom 118 = .ok (.isub, 1) := by decide +kernel
theorem dX6_leadFrom_119 : decode cX6_leadFrom 119 = .ok (.invokestatic 36, 3) := by decide +kernel
theorem dX6_leadFrom_122 : decode cX6_leadFrom 122 = .ok (.istore 5, 2) := by decide +kernel
theorem dX6_leadFrom_124 : decode cX6_leadFrom 124 = .ok (.iinc 6 1, 3) := by decide +kernel
theorem dX6_leadFrom_127 : decode cX6_leadFrom 127 = .ok (.goto (-64), 3) := by decide +kernel
theorem dX6_leadFrom_130 : decode cX6_leadFrom 130 = .ok (.iload 5, 2) := by decide +kernel
theorem dX6_leadFrom_132 : decode cX6_leadFrom 132 = .ok (.ireturn, 1) := by decide +kernel
theorem dX6_canTake_0 : decode cX6_canTake 0 = .ok (.iconst 0, 1) := by decide +kernel
theorem dX6_canTake_1 : decode cX6_canTake 1 = .ok (.istore_n 3, 1) := by decide +kernel
theorem dX6_canTake_2 : decode cX6_canTake 2 = .ok (.iload_n 3, 1) := by decide +kernel
theorem dX6_canTake_3 : decode cX6_canTake 3 = .ok (.aload_n 0, 1) := by decide +kernel
theorem dX6_canTake_4 : decode cX6_canTake 4 = .ok (.arraylength, 1) := by decide +kernel
