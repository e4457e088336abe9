theorem dX6_canTake_5 : decode cX6_canTake 5 = .ok (.if_icmp .ge 28, 3) := by decide +kernel
theorem dX6_canTake_8 : decode cX6_canTake 8 = .ok (.iload_n 2, 1) := by decide +kernel
theorem dX6_canTake_9 : decode cX6_canTake 9 = .ok (.iload_n 3, 1) := by decide +kernel
theorem dX6_canTake_10 : decode cX6_canTake 10 = .ok (.ishr, 1) := by decide +kernel
theorem dX6_canTake_11 : decode cX6_canTake 11 = .ok (.iconst 1, 1) := by decide +kernel
theorem dX6_canTake_12 : decode cX6_canTake 12 = .ok (.iand, 1) := by decide +kernel
theorem dX6_canTake_13 : decode cX6_canTake 13 = .ok (.iconst 1, 1) := by decide +kernel
theorem dX6_canTake_14 : decode cX6_canTake 14 = .ok (.if_icmp .ne 13, 3) := by decide +kernel
theorem dX6_canTake_17 : decode cX6_canTake 17 = .ok (.aload_n 0, 1) := by decide +kernel
theorem dX6_canTake_18 : decode cX6_canTake 18 = .ok (.iload_n 3, 1) := by decide +kernel
theorem dX6_canTake_19 : decode cX6_canTake 19 = .ok (.iaload, 1) := by decide +kernel
theorem dX6_canTake_20 : decode cX6_canTake 20 = .ok (.iload_n 1, 1) := by decide +kernel
theorem dX6_canTake_21 : decode cX6_canTake 21 = .ok (.iand, 1) := by decide +kernel
theorem dX6_canTake_22 : decode cX6_canTake 22 = .ok (.ifCond .ne 5, 3) := by decide +kernel
theorem dX6_canTake_25 : decode cX6_canTake 25 = .ok (.iconst 1, 1) := by decide +kernel
theorem dX6_canTake_26 : decode cX6_canTake 26 = .ok (.ireturn, 1) := by decide +kernel
theorem dX6_canTake_27 : decode cX6_canTake 27 = .ok (.iinc 3 1, 3) := by decide +kernel
theorem dX6_canTake_30 : decode cX6_canTake 30 = .ok (.goto (-28), 3) := by decide +kernel
theorem dX6_canTake_33 : decode cX6_canTake 33 = .ok (.iconst 0, 1) := by decide +kernel
theorem dX6_canTake_34 : decode cX6_canTake 34 = .ok (.ireturn, 1) := by decide +kernel
theorem dX7_init_0 : decode cX7_init 0 = .ok (.aload_n 0, 1) := by decide +kernel
theorem dX7_init_1 : decode cX7_init 1 = .ok (.invokespecial 3, 3) := by decide +kernel
theorem dX7_init_4 : decode cX7_init 4 = .ok (.aload_n 0, 1) := by decide +kernel
theorem dX7_init_5 : decode cX7_init 5 = .ok (.iconst 0, 1) := by decide +kernel
theorem dX7_init_6 : decode cX7_init 6 = .ok (.putfield 9, 3) := by decide +kernel
theorem dX7_init_9 : decode cX7_init 9 = .ok (.aload_n 0, 1) := by decide +kernel
theorem dX7_init_10 : decode cX7_init 10 = .ok (.iconst 0, 1) := by decide +kernel
theorem dX7_init_11 : decode cX7_init 11 = .ok (.putfield 15, 3) := by decide +kernel
theorem dX7_init_14 : decode cX7_init 14 = .ok (.aload_n 0, 1) := by decide +kernel
theorem dX7_init_15 : decode cX7_init 15 = .ok (.bipush 6, 2) := by decide +kernel
theorem dX7_init_17 : decode cX7_init 17 = .ok (.newarray .int, 2) := by decide +kernel
theorem dX7_init_19 : decode cX7_init 19 = .ok (.putfield 19, 3) := by decide +kernel
theorem dX7_init_22 : decode cX7_init 22 = .ok (.aload_n 0, 1) := by decide +kernel
theorem dX7_init_23 : decode cX7_init 23 = .ok (.bipush 6, 2) := by decide +kernel
theorem dX7_init_25 : decode cX7_init 25 = .ok (.newarray .int, 2) := by decide +kernel
theorem dX7_init_27 : decode cX7_init 27 = .ok (.putfield 23, 3) := by decide +kernel
theorem dX7_init_30 : decode cX7_init 30 = .ok (.aload_n 0, 1) := by decide +kernel
theorem dX7_init_31 : decode cX7_init 31 = .ok (.bipush 7, 2) := by decide +kernel
theorem dX7_init_33 : decode cX7_init 33 = .ok (.newarray .int, 2) := by decide +kernel
theorem dX7_init_35 : decode cX7_init 35 = .ok (.putfield 26, 3) := by decide +kernel
theorem dX7_init_38 : decode cX7_init 38 = .ok (.return_, 1) := by decide +kernel
theorem dX7_search_0 : decode cX7_search 0 = .ok (.aload_n 0, 1) := by decide +kernel
theorem dX7_search_1 : decode cX7_search 1 = .ok (.iload_n 2, 1) := by decide +kernel
theorem dX7_search_2 : decode cX7_search 2 = .ok (.putfield 15, 3) := by decide +kernel
theorem dX7_search_5 : decode cX7_search 5 = .ok (.aload_n 0, 1) := by decide +kernel
theorem dX7_search_6 : decode cX7_search 6 = .ok (.iconst (-1), 1) := by decide +kernel
theorem dX7_search_7 : decode cX7_search 7 = .ok (.putfield 9, 3) := by decide +kernel
theorem dX7_search_10 : decode cX7_search 10 = .ok (.aload_n 0, 1) := by decide +kernel
theorem dX7_search_11 : decode cX7_search 11 = .ok (.getfield 26, 3) := by decide +kernel
theorem dX7_search_14 : decode cX7_search 14 = .ok (.bipush 6, 2) := by decide +kernel
theorem dX7_search_16 : decode cX7_search 16 = .ok (.iconst 0, 1) := by decide +kernel
theorem dX7_search_17 : decode cX7_search 17 = .ok (.iastore, 1) := by decide +kernel
theorem dX7_search_18 : decode cX7_search 18 = .ok (.iconst 5, 1) := by decide +kernel
theorem dX7_search_19 : decode cX7_search 19 = .ok (.istore_n 3, 1) := by decide +kernel
theorem dX7_search_20 : decode cX7_search 20 = .ok (.iload_n 3, 1) := by decide +kernel
theorem dX7_search_21 : decode cX7_search 21 = .ok (.ifCond .lt 29, 3) := by decide +kernel
theorem dX7_search_24 : decode cX7_search 24 = .ok (.aload_n 0, 1) := by decide +kernel
theorem dX7_search_25 : decode cX7_search 25 = .ok (.getfield 26, 3) := by decide +kernel
theorem dX7_search_28 : decode cX7_search 28 = .ok (.iload_n 3, 1) := by decide +kernel
theorem dX7_search_29 : decode cX7_search 29 = .ok (.aload_n 0, 1) := by decide +kernel
theorem dX7_search_30 : decode cX7_search 30 = .ok (.getfield 26, 3) := by decide +kernel
theorem dX7_search_33 : decode cX7_search 33 = .ok (.iload_n 3, 1) := by decide +kernel
theorem dX7_search_34 : decode cX7_search 34 = .ok (.iconst 1, 1) := by decide +kernel
theorem dX7_search_35 : decode cX7_search 35 = .ok (.iadd, 1) := by decide +kernel
theorem dX7_search_36 : decode cX7_search 36 = .ok (.iaload, 1) := by decide +kernel
theorem dX7_search_37 : decode cX7_search 37 = .ok (.aload_n 1, 1) := by decide +kernel
theorem dX7_search_38 : decode cX7_search 38 = .ok (.iload_n 3, 1) := by decide +kernel
theorem dX7_search_39 : decode cX7_search 39 = .ok (.invokevirtual 29, 3) := by decide +kernel
theorem dX7_search_42 : decode cX7_search 42 = .ok (.iadd, 1) := by decide +kernel
theorem dX7_search_43 : decode cX7_search 43 = .ok (.iastore, 1) := by decide +kernel
theorem dX7_search_44 : decode cX7_search 44 = .ok (.iinc 3 (-1), 3) := by decide +kernel
theorem dX7_search_47 : decode cX7_search 47 = .ok (.goto (-27), 3) := by decide +kernel
theorem dX7_search_50 : decode cX7_search 50 = .ok (.aload_n 0, 1) := by decide +kernel
theorem dX7_search_51 : decode cX7_search 51 = .ok (.aload_n 1, 1) := by decide +kernel
theorem dX7_search_52 : decode cX7_search 52 = .ok (.iconst 0, 1) := by decide +kernel
theorem dX7_search_53 : decode cX7_search 53 = .ok (.iconst 0, 1) := by decide +kernel
theorem dX7_search_54 : decode cX7_search 54 = .ok (.invokestatic 35, 3) := by decide +kernel
theorem dX7_search_57 : decode cX7_search 57 = .ok (.return_, 1) := by decide +kernel
theorem dX7_ownerFound_0 : decode cX7_ownerFound 0 = .ok (.iload_n 1, 1) := by decide +kernel
theorem dX7_ownerFound_1 : decode cX7_ownerFound 1 = .ok (.ifCond .lt 21, 3) := by decide +kernel
theorem dX7_ownerFound_4 : decode cX7_ownerFound 4 = .ok (.iload_n 1, 1) := by decide +kernel
theorem dX7_ownerFound_5 : decode cX7_ownerFound 5 = .ok (.aload_n 0, 1) := by decide +kernel
theorem dX7_ownerFound_6 : decode cX7_ownerFound 6 = .ok (.getfield 23, 3) := by decide +kernel
theorem dX7_ownerFound_9 : decode cX7_ownerFound 9 = .ok (.arraylength, 1) := by decide +kernel
theorem dX7_ownerFound_10 : decode cX7_ownerFound 10 = .ok (.if_icmp .ge 12, 3) := by decide +kernel
theorem dX7_ownerFound_13 : decode cX7_ownerFound 13 = .ok (.aload_n 0, 1) := by decide +kernel
theorem dX7_ownerFound_14 : decode cX7_ownerFound 14 = .ok (.getfield 23, 3) := by decide +kernel
theorem dX7_ownerFound_17 : decode cX7_ownerFound 17 = .ok (.iload_n 1, 1) := by decide +kernel
theorem dX7_ownerFound_18 : decode cX7_ownerFound 18 = .ok (.iaload, 1) := by decide +kernel
theorem dX7_ownerFound_19 : decode cX7_ownerFound 19 = .ok (.goto 5, 3) := by decide +kernel
theorem dX7_ownerFound_22 : decode cX7_ownerFound 22 = .ok (.bipush 9, 2) := by decide +kernel
theorem dX7_ownerFound_24 : decode cX7_ownerFound 24 = .ok (.ireturn, 1) := by decide +kernel
theorem dX7_tryFrom_0 : decode cX7_tryFrom 0 = .ok (.iload_n 2, 1) := by decide +kernel
theorem dX7_tryFrom_1 : decode cX7_tryFrom 1 = .ok (.ifCond .lt 17, 3) := by decide +kernel
theorem dX7_tryFrom_4 : decode cX7_tryFrom 4 = .ok (.iload_n 2, 1) := by decide +kernel
theorem dX7_tryFrom_5 : decode cX7_tryFrom 5 = .ok (.bipush 6, 2) := by decide +kernel
theorem dX7_tryFrom_7 : decode cX7_tryFrom 7 = .ok (.if_icmp .ge 11, 3) := by decide +kernel
theorem dX7_tryFrom_10 : decode cX7_tryFrom 10 = .ok (.iload_n 2, 1) := by decide +kernel
theorem dX7_tryFrom_11 : decode cX7_tryFrom 11 = .ok (.aload_n 1, 1) := by decide +kernel
theorem dX7_tryFrom_12 : decode cX7_tryFrom 12 = .ok (.getfield 39, 3) := by decide +kernel
theorem dX7_tryFrom_15 : decode cX7_tryFrom 15 = .ok (.if_icmp .lt 9, 3) := by decide +kernel
theorem dX7_tryFrom_18 : decode cX7_tryFrom 18 = .ok (.aload_n 0, 1) := by decide +kernel
theorem dX7_tryFrom_19 : decode cX7_tryFrom 19 = .ok (.iload_n 3, 1) := by decide +kernel
theorem dX7_tryFrom_20 : decode cX7_tryFrom 20 = .ok (.invokevirtual 42, 3) := by decide +kernel
theorem dX7_tryFrom_23 : decode cX7_tryFrom 23 = .ok (.return_, 1) := by decide +kernel
theorem dX7_tryFrom_24 : decode cX7_tryFrom 24 = .ok (.iload_n 3, 1) := by decide +kernel
theorem dX7_tryFrom_25 : decode cX7_tryFrom 25 = .ok (.aload_n 0, 1) := by decide +kernel
theorem dX7_tryFrom_26 : decode cX7_tryFrom 26 = .ok (.getfield 26, 3) := by decide +kernel
theorem dX7_tryFrom_29 : decode cX7_tryFrom 29 = .ok (.iload_n 2, 1) := by decide +kernel
theorem dX7_tryFrom_30 : decode cX7_tryFrom 30 = .ok (.iaload, 1) := by decide +kernel
theorem dX7_tryFrom_31 : decode cX7_tryFrom 31 = .ok (.iadd, 1) := by decide +kernel
theorem dX7_tryFrom_32 : decode cX7_tryFrom 32 = .ok (.aload_n 0, 1) := by decide +kernel
theorem dX7_tryFrom_33 : decode cX7_tryFrom 33 = .ok (.getfield 9, 3) := by decide +kernel
theorem dX7_tryFrom_36 : decode cX7_tryFrom 36 = .ok (.if_icmp .gt 4, 3) := by decide +kernel
theorem dX7_tryFrom_39 : decode cX7_tryFrom 39 = .ok (.return_, 1) := by decide +kernel
theorem dX7_tryFrom_40 : decode cX7_tryFrom 40 = .ok (.iconst 0, 1) := by decide +kernel
theorem dX7_tryFrom_41 : decode cX7_tryFrom 41 = .ok (.istore 4, 2) := by decide +kernel
theorem dX7_tryFrom_43 : decode cX7_tryFrom 43 = .ok (.iload 4, 2) := by decide +kernel
theorem dX7_tryFrom_45 : decode cX7_tryFrom 45 = .ok (.aload_n 1, 1) := by decide +kernel
theorem dX7_tryFrom_46 : decode cX7_tryFrom 46 = .ok (.getfield 46, 3) := by decide +kernel
theorem dX7_tryFrom_49 : decode cX7_tryFrom 49 = .ok (.if_icmp .gt 61, 3) := by decide +kernel
theorem dX7_tryFrom_52 : decode cX7_tryFrom 52 = .ok (.iload 4, 2) := by decide +kernel
theorem dX7_tryFrom_54 : decode cX7_tryFrom 54 = .ok (.ifCond .ne 8, 3) := by decide +kernel
theorem dX7_tryFrom_57 : decode cX7_tryFrom 57 = .ok (.bipush 9, 2) := by decide +kernel
theorem dX7_tryFrom_59 : decode cX7_tryFrom 59 = .ok (.goto 7, 3) := by decide +kernel
theorem dX7_tryFrom_62 : decode cX7_tryFrom 62 = .ok (.iload 4, 2) := by decide +kernel
theorem dX7_tryFrom_64 : decode cX7_tryFrom 64 = .ok (.iconst 1, 1) := by decide +kernel
theorem dX7_tryFrom_65 : decode cX7_tryFrom 65 = .ok (.isub, 1) := by decide +kernel
theorem dX7_tryFrom_66 : decode cX7_tryFrom 66 = .ok (.istore 5, 2) := by decide +kernel
theorem dX7_tryFrom_68 : decode cX7_tryFrom 68 = .ok (.aload_n 0, 1) := by decide +kernel
theorem dX7_tryFrom_69 : decode cX7_tryFrom 69 = .ok (.aload_n 1, 1) := by decide +kernel
theorem dX7_tryFrom_70 : decode cX7_tryFrom 70 = .ok (.iload_n 2, 1) := by decide +kernel
theorem dX7_tryFrom_71 : decode cX7_tryFrom 71 = .ok (.iload 5, 2) := by decide +kernel
theorem dX7_tryFrom_73 : decode cX7_tryFrom 73 = .ok (.invokevirtual 49, 3) := by decide +kernel
theorem dX7_tryFrom_76 : decode cX7_tryFrom 76 = .ok (.ifCond .eq 28, 3) := by decide +kernel
theorem dX7_tryFrom_79 : decode cX7_tryFrom 79 = .ok (.aload_n 0, 1) := by decide +kernel
theorem dX7_tryFrom_80 : decode cX7_tryFrom 80 = .ok (.getfield 19, 3) := by decide +kernel
theorem dX7_tryFrom_83 : decode cX7_tryFrom 83 = .ok (.iload_n 2, 1) := by decide +kernel
theorem dX7_tryFrom_84 : decode cX7_tryFrom 84 = .ok (.iload 5, 2) := by decide +kernel
theorem dX7_tryFrom_86 : decode cX7_tryFrom 86 = .ok (.iastore, 1) := by decide +kernel
theorem dX7_tryFrom_87 : decode cX7_tryFrom 87 = .ok (.aload_n 0, 1) := by decide +kernel
theorem dX7_tryFrom_88 : decode cX7_tryFrom 88 = .ok (.aload_n 1, 1) := by decide +kernel
theorem dX7_tryFrom_89 : decode cX7_tryFrom 89 = .ok (.iload_n 2, 1) := by decide +kernel
theorem dX7_tryFrom_90 : decode cX7_tryFrom 90 = .ok (.iconst 1, 1) := by decide +kernel
theorem dX7_tryFrom_91 : decode cX7_tryFrom 91 = .ok (.iadd, 1) := by decide +kernel
theorem dX7_tryFrom_92 : decode cX7_tryFrom 92 = .ok (.iload_n 3, 1) := by decide +kernel
theorem dX7_tryFrom_93 : decode cX7_tryFrom 93 = .ok (.aload_n 1, 1) := by decide +kernel
theorem dX7_tryFrom_94 : decode cX7_tryFrom 94 = .ok (.iload 5, 2) := by decide +kernel
theorem dX7_tryFrom_96 : decode cX7_tryFrom 96 = .ok (.iload_n 2, 1) := by decide +kernel
theorem dX7_tryFrom_97 : decode cX7_tryFrom 97 = .ok (.invokevirtual 53, 3) := by decide +kernel
theorem dX7_tryFrom_100 : decode cX7_tryFrom 100 = .ok (.iadd, 1) := by decide +kernel
theorem dX7_tryFrom_101 : decode cX7_tryFrom 101 = .ok (.invokestatic 35, 3) := by decide +kernel
theorem dX7_tryFrom_104 : decode cX7_tryFrom 104 = .ok (.iinc 4 1, 3) := by decide +kernel
theorem dX7_tryFrom_107 : decode cX7_tryFrom 107 = .ok (.goto (-64), 3) := by decide +kernel
theorem dX7_tryFrom_110 : decode cX7_tryFrom 110 = .ok (.return_, 1) := by decide +kernel
theorem dX7_keepIfBetter_0 : decode cX7_keepIfBetter 0 = .ok (.iload_n 1, 1) := by decide +kernel
theorem dX7_keepIfBetter_1 : decode cX7_keepIfBetter 1 = .ok (.aload_n 0, 1) := by decide +kernel
theorem dX7_keepIfBetter_2 : decode cX7_keepIfBetter 2 = .ok (.getfield 9, 3) := by decide +kernel
theorem dX7_keepIfBetter_5 : decode cX7_keepIfBetter 5 = .ok (.if_icmp .le 26, 3) := by decide +kernel
theorem dX7_keepIfBetter_8 : decode cX7_keepIfBetter 8 = .ok (.aload_n 0, 1) := by decide +kernel
theorem dX7_keepIfBetter_9 : decode cX7_keepIfBetter 9 = .ok (.iload_n 1, 1) := by decide +kernel
theorem dX7_keepIfBetter_10 : decode cX7_keepIfBetter 10 = .ok (.putfield 9, 3) := by decide +kernel
theorem dX7_keepIfBetter_13 : decode cX7_keepIfBetter 13 = .ok (.aload_n 0, 1) := by decide +kernel
theorem dX7_keepIfBetter_14 : decode cX7_keepIfBetter 14 = .ok (.getfield 19, 3) := by decide +kernel
theorem dX7_keepIfBetter_17 : decode cX7_keepIfBetter 17 = .ok (.iconst 0, 1) := by decide +kernel
theorem dX7_keepIfBetter_18 : decode cX7_keepIfBetter 18 = .ok (.aload_n 0, 1) := by decide +kernel
theorem dX7_keepIfBetter_19 : decode cX7_keepIfBetter 19 = .ok (.getfield 23, 3) := by decide +kernel
theorem dX7_keepIfBetter_22 : decode cX7_keepIfBetter 22 = .ok (.iconst 0, 1) := by decide +kernel
theorem dX7_keepIfBetter_23 : decode cX7_keepIfBetter 23 = .ok (.aload_n 0, 1) := by decide +kernel
theorem dX7_keepIfBetter_24 : decode cX7_keepIfBetter 24 = .ok (.getfield 23, 3) := by decide +kernel
theorem dX7_keepIfBetter_27 : decode cX7_keepIfBetter 27 = .ok (.arraylength, 1) := by decide +kernel
theorem dX7_keepIfBetter_28 : decode cX7_keepIfBetter 28 = .ok (.invokestatic 57, 3) := by decide +kernel
theorem dX7_keepIfBetter_31 : decode cX7_keepIfBetter 31 = .ok (.return_, 1) := by decide +kernel
theorem dX7_canHave_0 : decode cX7_canHave 0 = .ok (.aload_n 1, 1) := by decide +kernel
theorem dX7_canHave_1 : decode cX7_canHave 1 = .ok (.iload_n 2, 1) := by decide +kernel
theorem dX7_canHave_2 : decode cX7_canHave 2 = .ok (.invokevirtual 63, 3) := by decide +kernel
theorem dX7_canHave_5 : decode cX7_canHave 5 = .ok (.istore 4, 2) := by decide +kernel
theorem dX7_canHave_7 : decode cX7_canHave 7 = .ok (.aload_n 0, 1) := by decide +kernel
theorem dX7_canHave_8 : decode cX7_canHave 8 = .ok (.getfield 15, 3) := by decide +kernel
theorem dX7_canHave_11 : decode cX7_canHave 11 = .ok (.ifCond .eq 18, 3) := by decide +kernel
theorem dX7_canHave_14 : decode cX7_canHave 14 = .ok (.iload 4, 2) := by decide +kernel
theorem dX7_canHave_16 : decode cX7_canHave 16 = .ok (.bipush 9, 2) := by decide +kernel
theorem dX7_canHave_18 : decode cX7_canHave 18 = .ok (.if_icmp .eq 11, 3) := by decide +kernel
theorem dX7_canHave_21 : decode cX7_canHave 21 = .ok (.iload 4, 2) := by decide +kernel
theorem dX7_canHave_23 : decode cX7_canHave 23 = .ok (.iload_n 3, 1) := by decide +kernel
theorem dX7_canHave_24 : decode cX7_canHave 24 = .ok (.if_icmp .eq 5, 3) := by decide +kernel
theorem dX7_canHave_27 : decode cX7_canHave 27 = .ok (.iconst 0, 1) := by decide +kernel
theorem dX7_canHave_28 : decode cX7_canHave 28 = .ok (.ireturn, 1) := by decide +kernel
theorem dX7_canHave_29 : decode cX7_canHave 29 = .ok (.iconst 0, 1) := by decide +kernel
theorem dX7_canHave_30 : decode cX7_canHave 30 = .ok (.istore 5, 2) := by decide +kernel
theorem dX7_canHave_32 : decode cX7_canHave 32 = .ok (.iload 5, 2) := by decide +kernel
theorem dX7_canHave_34 : decode cX7_canHave 34 = .ok (.iload_n 2, 1) := by decide +kernel
theorem dX7_canHave_35 : decode cX7_canHave 35 = .ok (.if_icmp .ge 46, 3) := by decide +kernel
theorem dX7_canHave_38 : decode cX7_canHave 38 = .ok (.iload 5, 2) := by decide +kernel
theorem dX7_canHave_40 : decode cX7_canHave 40 = .ok (.aload_n 0, 1) := by decide +kernel
theorem dX7_canHave_41 : decode cX7_canHave 41 = .ok (.getfield 19, 3) := by decide +kernel
theorem dX7_canHave_44 : decode cX7_canHave 44 = .ok (.arraylength, 1) := by decide +kernel
theorem dX7_canHave_45 : decode cX7_canHave 45 = .ok (.if_icmp .ge 36, 3) := by decide +kernel
theorem dX7_canHave_48 : decode cX7_canHave 48 = .ok (.aload_n 1, 1) := by decide +kernel
theorem dX7_canHave_49 : decode cX7_canHave 49 = .ok (.aload_n 0, 1) := by decide +kernel
theorem dX7_canHave_50 : decode cX7_canHave 50 = .ok (.getfield 19, 3) := by decide +kernel
theorem dX7_canHave_53 : decode cX7_canHave 53 = .ok (.iload 5, 2) := by decide +kernel
theorem dX7_canHave_55 : decode cX7_canHave 55 = .ok (.iaload, 1) := by decide +kernel
theorem dX7_canHave_56 : decode cX7_canHave 56 = .ok (.iload_n 3, 1) := by decide +kernel
theorem dX7_canHave_57 : decode cX7_canHave 57 = .ok (.invokevirtual 66, 3) := by decide +kernel
theorem dX7_canHave_60 : decode cX7_canHave 60 = .ok (.ifCond .eq 15, 3) := by decide +kernel
theorem dX7_canHave_63 : decode cX7_canHave 63 = .ok (.aload_n 1, 1) := by decide +kernel
theorem dX7_canHave_64 : decode cX7_canHave 64 = .ok (.iload 5, 2) := by decide +kernel
theorem dX7_canHave_66 : decode cX7_canHave 66 = .ok (.iload_n 2, 1) := by decide +kernel
theorem dX7_canHave_67 : decode cX7_canHave 67 = .ok (.invokevirtual 70, 3) := by decide +kernel
theorem dX7_canHave_70 : decode cX7_canHave 70 = .ok (.ifCond .eq 5, 3) := by decide +kernel
theorem dX7_canHave_73 : decode cX7_canHave 73 = .ok (.iconst 0, 1) := by decide +kernel
theorem dX7_canHave_74 : decode cX7_canHave 74 = .ok (.ireturn, 1) := by decide +kernel
theorem dX7_canHave_75 : decode cX7_canHave 75 = .ok (.iinc 5 1, 3) := by decide +kernel
theorem dX7_canHave_78 : decode cX7_canHave 78 = .ok (.goto (-46), 3) := by decide +kernel
theorem dX7_canHave_81 : decode cX7_canHave 81 = .ok (.iconst 1, 1) := by decide +kernel
theorem dX7_canHave_82 : decode cX7_canHave 82 = .ok (.ireturn, 1) := by decide +kernel
theorem dX8_init_0 : decode cX8_init 0 = .ok (.aload_n 0, 1) := by decide +kernel
theorem dX8_init_1 : decode cX8_init 1 = .ok (.invokespecial 3, 3) := by decide +kernel
theorem dX8_init_4 : decode cX8_init 4 = .ok (.aload_n 0, 1) := by decide +kernel
theorem dX8_init_5 : decode cX8_init 5 = .ok (.iconst 0, 1) := by decide +kernel
theorem dX8_init_6 : decode cX8_init 6 = .ok (.putfield 9, 3) := by decide +kernel
theorem dX8_init_9 : decode cX8_init 9 = .ok (.aload_n 0, 1) := by decide +kernel
theorem dX8_init_10 : decode cX8_init 10 = .ok (.iconst 0, 1) := by decide +kernel
theorem dX8_init_11 : decode cX8_init 11 = .ok (.putfield 15, 3) := by decide +kernel
theorem dX8_init_14 : decode cX8_init 14 = .ok (.aload_n 0, 1) := by decide +kernel
theorem dX8_init_15 : decode cX8_init 15 = .ok (.iconst 0, 1) := by decide +kernel
theorem dX8_init_16 : decode cX8_init 16 = .ok (.putfield 18, 3) := by decide +kernel
theorem dX8_init_19 : decode cX8_init 19 = .ok (.aload_n 0, 1) := by decide +kernel
theorem dX8_init_20 : decode cX8_init 20 = .ok (.new 21, 3) := by decide +kernel
theorem dX8_init_23 : decode cX8_init 23 = .ok (.dup, 1) := by decide +kernel
theorem dX8_init_24 : decode cX8_init 24 = .ok (.invokespecial 23, 3) := by decide +kernel
theorem dX8_init_27 : decode cX8_init 27 = .ok (.putfield 24, 3) := by decide +kernel
theorem dX8_init_30 : decode cX8_init 30 = .ok (.aload_n 0, 1) := by decide +kernel
theorem dX8_init_31 : decode cX8_init 31 = .ok (.bipush 100, 2) := by decide +kernel
theorem dX8_init_33 : decode cX8_init 33 = .ok (.newarray .int, 2) := by decide +kernel
theorem dX8_init_35 : decode cX8_init 35 = .ok (.putfield 28, 3) := by decide +kernel
theorem dX8_init_38 : decode cX8_init 38 = .ok (.return_, 1) := by decide +kernel
theorem dX8_refusalUnless_0 : decode cX8_refusalUnless 0 = .ok (.aload_n 0, 1) := by decide +kernel
theorem dX8_refusalUnless_1 : decode cX8_refusalUnless 1 = .ok (.getfield 9, 3) := by decide +kernel
theorem dX8_refusalUnless_4 : decode cX8_refusalUnless 4 = .ok (.ifCond .ne 6, 3) := by decide +kernel
theorem dX8_refusalUnless_7 : decode cX8_refusalUnless 7 = .ok (.bipush (-11), 2) := by decide +kernel
theorem dX8_refusalUnless_9 : decode cX8_refusalUnless 9 = .ok (.ireturn, 1) := by decide +kernel
theorem dX8_refusalUnless_10 : decode cX8_refusalUnless 10 = .ok (.aload_n 0, 1) := by decide +kernel
theorem dX8_refusalUnless_11 : decode cX8_refusalUnless 11 = .ok (.getfield 9, 3) := by decide +kernel
theorem dX8_refusalUnless_14 : decode cX8_refusalUnless 14 = .ok (.iload_n 1, 1) := by decide +kernel
theorem dX8_refusalUnless_15 : decode cX8_refusalUnless 15 = .ok (.if_icmp .ne 7, 3) := by decide +kernel
theorem dX8_refusalUnless_18 : decode cX8_refusalUnless 18 = .ok (.iconst 0, 1) := by decide +kernel
theorem dX8_refusalUnless_19 : decode cX8_refusalUnless 19 = .ok (.goto 5, 3) := by decide +kernel
theorem dX8_refusalUnless_22 : decode cX8_refusalUnless 22 = .ok (.bipush (-12), 2) := by decide +kernel
theorem dX8_refusalUnless_24 : decode cX8_refusalUnless 24 = .ok (.ireturn, 1) := by decide +kernel
theorem dX8_bytesRefusal_0 : decode cX8_bytesRefusal 0 = .ok (.aload_n 0, 1) := by decide +kernel
theorem dX8_bytesRefusal_1 : decode cX8_bytesRefusal 1 = .ok (.iconst 2, 1) := by decide +kernel
theorem dX8_bytesRefusal_2 : decode cX8_bytesRefusal 2 = .ok (.invokevirtual 32, 3) := by decide +kernel
theorem dX8_bytesRefusal_5 : decode cX8_bytesRefusal 5 = .ok (.istore_n 1, 1) := by decide +kernel
theorem dX8_bytesRefusal_6 : decode cX8_bytesRefusal 6 = .ok (.iload_n 1, 1) := by decide +kernel
theorem dX8_bytesRefusal_7 : decode cX8_bytesRefusal 7 = .ok (.ifCond .ne 15, 3) := by decide +kernel
theorem dX8_bytesRefusal_10 : decode cX8_bytesRefusal 10 = .ok (.aload_n 0, 1) := by decide +kernel
theorem dX8_bytesRefusal_11 : decode cX8_bytesRefusal 11 = .ok (.getfield 15, 3) := by decide +kernel
theorem dX8_bytesRefusal_14 : decode cX8_bytesRefusal 14 = .ok (.ifCond .eq 8, 3) := by decide +kernel
theorem dX8_bytesRefusal_17 : decode cX8_bytesRefusal 17 = .ok (.bipush (-12), 2) := by decide +kernel
theorem dX8_bytesRefusal_19 : decode cX8_bytesRefusal 19 = .ok (.goto 4, 3) := by decide +kernel
theorem dX8_bytesRefusal_22 : decode cX8_bytesRefusal 22 = .ok (.iload_n 1, 1) := by decide +kernel
theorem dX8_bytesRefusal_23 : decode cX8_bytesRefusal 23 = .ok (.ireturn, 1) := by decide +kernel
theorem dX8_becomeRow_0 : decode cX8_becomeRow 0 = .ok (.aload_n 0, 1) := by decide +kernel
theorem dX8_becomeRow_1 : decode cX8_becomeRow 1 = .ok (.iconst 2, 1) := by decide +kernel
theorem dX8_becomeRow_2 : decode cX8_becomeRow 2 = .ok (.putfield 9, 3) := by decide +kernel
theorem dX8_becomeRow_5 : decode cX8_becomeRow 5 = .ok (.aload_n 0, 1) := by decide +kernel
theorem dX8_becomeRow_6 : decode cX8_becomeRow 6 = .ok (.iload_n 1, 1) := by decide +kernel
theorem dX8_becomeRow_7 : decode cX8_becomeRow 7 = .ok (.putfield 15, 3) := by decide +kernel
theorem dX8_becomeRow_10 : decode cX8_becomeRow 10 = .ok (.aload_n 0, 1) := by decide +kernel
theorem dX8_becomeRow_11 : decode cX8_becomeRow 11 = .ok (.iload_n 2, 1) := by decide +kernel
theorem dX8_becomeRow_12 : decode cX8_becomeRow 12 = .ok (.putfield 18, 3) := by decide +kernel
theorem dX8_becomeRow_15 : decode cX8_becomeRow 15 = .ok (.aload_n 0, 1) := by decide +kernel
theorem dX8_becomeRow_16 : decode cX8_becomeRow 16 = .ok (.getfield 28, 3) := by decide +kernel
theorem dX8_becomeRow_19 : decode cX8_becomeRow 19 = .ok (.iconst 0, 1) := by decide +kernel
theorem dX8_becomeRow_20 : decode cX8_becomeRow 20 = .ok (.invokestatic 36, 3) := by decide +kernel
theorem dX8_becomeRow_23 : decode cX8_becomeRow 23 = .ok (.return_, 1) := by decide +kernel
theorem dX8_isPlace_0 : decode cX8_isPlace 0 = .ok (.iload_n 1, 1) := by decide +kernel
theorem dX8_isPlace_1 : decode cX8_isPlace 1 = .ok (.ifCond .lt 24, 3) := by decide +kernel
theorem dX8_isPlace_4 : decode cX8_isPlace 4 = .ok (.iload_n 1, 1) := by decide +kernel
theorem dX8_isPlace_5 : decode cX8_isPlace 5 = .ok (.aload_n 0, 1) := by decide +kernel
theorem dX8_isPlace_6 : decode cX8_isPlace 6 = .ok (.getfield 18, 3) := by decide +kernel
theorem dX8_isPlace_9 : decode cX8_isPlace 9 = .ok (.if_icmp .ge 16, 3) := by decide +kernel
theorem dX8_isPlace_12 : decode cX8_isPlace 12 = .ok (.iload_n 1, 1) := by decide +kernel
theorem dX8_isPlace_13 : decode cX8_isPlace 13 = .ok (.aload_n 0, 1) := by decide +kernel
theorem dX8_isPlace_14 : decode cX8_isPlace 14 = .ok (.getfield 28, 3) := by decide +kernel
theorem dX8_isPlace_17 : decode cX8_isPlace 17 = .ok (.arraylength, 1) := by decide +kernel
theorem dX8_isPlace_18 : decode cX8_isPlace 18 = .ok (.if_icmp .ge 7, 3) := by decide +kernel
theorem dX8_isPlace_21 : decode cX8_isPlace 21 = .ok (.iconst 1, 1) := by decide +kernel
theorem dX8_isPlace_22 : decode cX8_isPlace 22 = .ok (.goto 4, 3) := by decide +kernel
theorem dX8_isPlace_25 : decode cX8_isPlace 25 = .ok (.iconst 0, 1) := by decide +kernel
theorem dX8_isPlace_26 : decode cX8_isPlace 26 = .ok (.ireturn, 1) := by decide +kernel
theorem dX8_hasPlaces_0 : decode cX8_hasPlaces 0 = .ok (.iload_n 1, 1) := by decide +kernel
theorem dX8_hasPlaces_1 : decode cX8_hasPlaces 1 = .ok (.ifCond .lt 41, 3) := by decide +kernel
theorem dX8_hasPlaces_4 : decode cX8_hasPlaces 4 = .ok (.iload_n 2, 1) := by decide +kernel
theorem dX8_hasPlaces_5 : decode cX8_hasPlaces 5 = .ok (.ifCond .lt 37, 3) := by decide +kernel
theorem dX8_hasPlaces_8 : decode cX8_hasPlaces 8 = .ok (.iload_n 1, 1) := by decide +kernel
theorem dX8_hasPlaces_9 : decode cX8_hasPlaces 9 = .ok (.aload_n 0, 1) := by decide +kernel
theorem dX8_hasPlaces_10 : decode cX8_hasPlaces 10 = .ok (.getfield 18, 3) := by decide +kernel
theorem dX8_hasPlaces_13 : decode cX8_hasPlaces 13 = .ok (.if_icmp .gt 29, 3) := by decide +kernel
theorem dX8_hasPlaces_16 : decode cX8_hasPlaces 16 = .ok (.iload_n 2, 1) := by decide +kernel
theorem dX8_hasPlaces_17 : decode cX8_hasPlaces 17 = .ok (.aload_n 0, 1) := by decide +kernel
theorem dX8_hasPlaces_18 : decode cX8_hasPlaces 18 = .ok (.getfield 18, 3) := by decide +kernel
theorem dX8_hasPlaces_21 : decode cX8_hasPlaces 21 = .ok (.iload_n 1, 1) := by decide +kernel
theorem dX8_hasPlaces_22 : decode cX8_hasPlaces 22 = .ok (.isub, 1) := by decide +kernel
theorem dX8_hasPlaces_23 : decode cX8_hasPlaces 23 = .ok (.if_icmp .gt 19, 3) := by decide +kernel
theorem dX8_hasPlaces_26 : decode cX8_hasPlaces 26 = .ok (.aload_n 0, 1) := by decide +kernel
theorem dX8_hasPlaces_27 : decode cX8_hasPlaces 27 = .ok (.getfield 18, 3) := by decide +kernel
theorem dX8_hasPlaces_30 : decode cX8_hasPlaces 30 = .ok (.aload_n 0, 1) := by decide +kernel
theorem dX8_hasPlaces_31 : decode cX8_hasPlaces 31 = .ok (.getfield 28, 3) := by decide +kernel
theorem dX8_hasPlaces_34 : decode cX8_hasPlaces 34 = .ok (.arraylength, 1) := by decide +kernel
theorem dX8_hasPlaces_35 : decode cX8_hasPlaces 35 = .ok (.if_icmp .gt 7, 3) := by decide +kernel
theorem dX8_hasPlaces_38 : decode cX8_hasPlaces 38 = .ok (.iconst 1, 1) := by decide +kernel
theorem dX8_hasPlaces_39 : decode cX8_hasPlaces 39 = .ok (.goto 4, 3) := by decide +kernel
theorem dX8_hasPlaces_42 : decode cX8_hasPlaces 42 = .ok (.iconst 0, 1) := by decide +kernel
theorem dX8_hasPlaces_43 : decode cX8_hasPlaces 43 = .ok (.ireturn, 1) := by decide +kernel
theorem dX8_at_0 : decode cX8_at 0 = .ok (.iload_n 1, 1) := by decide +kernel
theorem dX8_at_1 : decode cX8_at 1 = .ok (.ifCond .lt 29, 3) := by decide +kernel
theorem dX8_at_4 : decode cX8_at 4 = .ok (.iload_n 1, 1) := by decide +kernel
theorem dX8_at_5 : decode cX8_at 5 = .ok (.aload_n 0, 1) := by decide +kernel
theorem dX8_at_6 : decode cX8_at 6 = .ok (.getfield 18, 3) := by decide +kernel
theorem dX8_at_9 : decode cX8_at 9 = .ok (.if_icmp .ge 21, 3) := by decide +kernel
theorem dX8_at_12 : decode cX8_at 12 = .ok (.iload_n 1, 1) := by decide +kernel
theorem dX8_at_13 : decode cX8_at 13 = .ok (.aload_n 0, 1) := by decide +kernel
theorem dX8_at_14 : decode cX8_at 14 = .ok (.getfield 28, 3) := by decide +kernel
theorem dX8_at_17 : decode cX8_at 17 = .ok (.arraylength, 1) := by decide +kernel
theorem dX8_at_18 : decode cX8_at 18 = .ok (.if_icmp .ge 12, 3) := by decide +kernel
theorem dX8_at_21 : decode cX8_at 21 = .ok (.aload_n 0, 1) := by decide +kernel
theorem dX8_at_22 : decode cX8_at 22 = .ok (.getfield 28, 3) := by decide +kernel
theorem dX8_at_25 : decode cX8_at 25 = .ok (.iload_n 1, 1) := by decide +kernel
theorem dX8_at_26 : decode cX8_at 26 = .ok (.iaload, 1) := by decide +kernel
theorem dX8_at_27 : decode cX8_at 27 = .ok (.goto 4, 3) := by decide +kernel
theorem dX8_at_30 : decode cX8_at 30 = .ok (.iconst 0, 1) := by decide +kernel
theorem dX8_at_31 : decode cX8_at 31 = .ok (.ireturn, 1) := by decide +kernel
theorem dX8_set_0 : decode cX8_set 0 = .ok (.aload_n 0, 1) := by decide +kernel
theorem dX8_set_1 : decode cX8_set 1 = .ok (.iload_n 1, 1) := by decide +kernel
theorem dX8_set_2 : decode cX8_set 2 = .ok (.invokevirtual 42, 3) := by decide +kernel
theorem dX8_set_5 : decode cX8_set 5 = .ok (.ifCond .ne 5, 3) := by decide +kernel
theorem dX8_set_8 : decode cX8_set 8 = .ok (.iconst 0, 1) := by decide +kernel
theorem dX8_set_9 : decode cX8_set 9 = .ok (.ireturn, 1) := by decide +kernel
theorem dX8_set_10 : decode cX8_set 10 = .ok (.aload_n 0, 1) := by decide +kernel
theorem dX8_set_11 : decode cX8_set 11 = .ok (.getfield 28, 3) := by decide +kernel
theorem dX8_set_14 : decode cX8_set 14 = .ok (.iload_n 1, 1) := by decide +kernel
theorem dX8_set_15 : decode cX8_set 15 = .ok (.aload_n 0, 1) := by decide +kernel
theorem dX8_set_16 : decode cX8_set 16 = .ok (.getfield 15, 3) := by decide +kernel
theorem dX8_set_19 : decode cX8_set 19 = .ok (.ifCond .ne 8, 3) := by decide +kernel
theorem dX8_set_22 : decode cX8_set 22 = .ok (.iload_n 2, 1) := by decide +kernel
theorem dX8_set_23 : decode cX8_set 23 = .ok (.i2b, 1) := by decide +kernel
theorem dX8_set_24 : decode cX8_set 24 = .ok (.goto 17, 3) := by decide +kernel
theorem dX8_set_27 : decode cX8_set 27 = .ok (.aload_n 0, 1) := by decide +kernel
theorem dX8_set_28 : decode cX8_set 28 = .ok (.getfield 15, 3) := by decide +kernel
theorem dX8_set_31 : decode cX8_set 31 = .ok (.iconst 1, 1) := by decide +kernel
theorem dX8_set_32 : decode cX8_set 32 = .ok (.if_icmp .ne 8, 3) := by decide +kernel
theorem dX8_set_35 : decode cX8_set 35 = .ok (.iload_n 2, 1) := by decide +kernel
theorem dX8_set_36 : decode cX8_set 36 = .ok (.i2s, 1) := by decide +kernel
theorem dX8_set_37 : decode cX8_set 37 = .ok (.goto 4, 3) := by decide +kernel
theorem dX8_set_40 : decode cX8_set 40 = .ok (.iload_n 2, 1) := by decide +kernel
theorem dX8_set_41 : decode cX8_set 41 = .ok (.iastore, 1) := by decide +kernel
theorem dX8_set_42 : decode cX8_set 42 = .ok (.iconst 1, 1) := by decide +kernel
theorem dX8_set_43 : decode cX8_set 43 = .ok (.ireturn, 1) := by decide +kernel
theorem dX9_init_0 : decode cX9_init 0 = .ok (.aload_n 0, 1) := by decide +kernel
theorem dX9_init_1 : decode cX9_init 1 = .ok (.invokespecial 1, 3) := by decide +kernel
theorem dX9_init_4 : decode cX9_init 4 = .ok (.aload_n 0, 1) := by decide +kernel
theorem dX9_init_5 : decode cX9_init 5 = .ok (.new 7, 3) := by decide +kernel
theorem dX9_init_8 : decode cX9_init 8 = .ok (.dup, 1) := by decide +kernel
theorem dX9_init_9 : decode cX9_init 9 = .ok (.invokespecial 9, 3) := by decide +kernel
theorem dX9_init_12 : decode cX9_init 12 = .ok (.putfield 10, 3) := by decide +kernel
theorem dX9_init_15 : decode cX9_init 15 = .ok (.aload_n 0, 1) := by decide +kernel
theorem dX9_init_16 : decode cX9_init 16 = .ok (.new 7, 3) := by decide +kernel
theorem dX9_init_19 : decode cX9_init 19 = .ok (.dup, 1) := by decide +kernel
theorem dX9_init_20 : decode cX9_init 20 = .ok (.invokespecial 9, 3) := by decide +kernel
theorem dX9_init_23 : decode cX9_init 23 = .ok (.putfield 16, 3) := by decide +kernel
theorem dX9_init_26 : decode cX9_init 26 = .ok (.aload_n 0, 1) := by decide +kernel
theorem dX9_init_27 : decode cX9_init 27 = .ok (.new 7, 3) := by decide +kernel
theorem dX9_init_30 : decode cX9_init 30 = .ok (.dup, 1) := by decide +kernel
theorem dX9_init_31 : decode cX9_init 31 = .ok (.invokespecial 9, 3) := by decide +kernel
theorem dX9_init_34 : decode cX9_init 34 = .ok (.putfield 19, 3) := by decide +kernel
theorem dX9_init_37 : decode cX9_init 37 = .ok (.aload_n 0, 1) := by decide +kernel
theorem dX9_init_38 : decode cX9_init 38 = .ok (.iconst 0, 1) := by decide +kernel
theorem dX9_init_39 : decode cX9_init 39 = .ok (.putfield 22, 3) := by decide +kernel
theorem dX9_init_42 : decode cX9_init 42 = .ok (.aload_n 0, 1) := by decide +kernel
theorem dX9_init_43 : decode cX9_init 43 = .ok (.bipush 8, 2) := by decide +kernel
theorem dX9_init_45 : decode cX9_init 45 = .ok (.anewarray 26, 3) := by decide +kernel
theorem dX9_init_48 : decode cX9_init 48 = .ok (.putfield 28, 3) := by decide +kernel
theorem dX9_init_51 : decode cX9_init 51 = .ok (.aload_n 0, 1) := by decide +kernel
theorem dX9_init_52 : decode cX9_init 52 = .ok (.new 32, 3) := by decide +kernel
theorem dX9_init_55 : decode cX9_init 55 = .ok (.dup, 1) := by decide +kernel
theorem dX9_init_56 : decode cX9_init 56 = .ok (.invokespecial 34, 3) := by decide +kernel
theorem dX9_init_59 : decode cX9_init 59 = .ok (.putfield 35, 3) := by decide +kernel
theorem dX9_init_62 : decode cX9_init 62 = .ok (.aload_n 0, 1) := by decide +kernel
theorem dX9_init_63 : decode cX9_init 63 = .ok (.new 39, 3) := by decide +kernel
theorem dX9_init_66 : decode cX9_init 66 = .ok (.dup, 1) := by decide +kernel
theorem dX9_init_67 : decode cX9_init 67 = .ok (.invokespecial 41, 3) := by decide +kernel
theorem dX9_init_70 : decode cX9_init 70 = .ok (.putfield 42, 3) := by decide +kernel
theorem dX9_init_73 : decode cX9_init 73 = .ok (.aload_n 0, 1) := by decide +kernel
theorem dX9_init_74 : decode cX9_init 74 = .ok (.new 46, 3) := by decide +kernel
theorem dX9_init_77 : decode cX9_init 77 = .ok (.dup, 1) := by decide +kernel
theorem dX9_init_78 : decode cX9_init 78 = .ok (.invokespecial 48, 3) := by decide +kernel
theorem dX9_init_81 : decode cX9_init 81 = .ok (.putfield 49, 3) := by decide +kernel
theorem dX9_init_84 : decode cX9_init 84 = .ok (.aload_n 0, 1) := by decide +kernel
theorem dX9_init_85 : decode cX9_init 85 = .ok (.new 53, 3) := by decide +kernel
theorem dX9_init_88 : decode cX9_init 88 = .ok (.dup, 1) := by decide +kernel
theorem dX9_init_89 : decode cX9_init 89 = .ok (.invokespecial 55, 3) := by decide +kernel
theorem dX9_init_92 : decode cX9_init 92 = .ok (.putfield 56, 3) := by decide +kernel
theorem dX9_init_95 : decode cX9_init 95 = .ok (.aload_n 0, 1) := by decide +kernel
theorem dX9_init_96 : decode cX9_init 96 = .ok (.new 60, 3) := by decide +kernel
theorem dX9_init_99 : decode cX9_init 99 = .ok (.dup, 1) := by decide +kernel
theorem dX9_init_100 : decode cX9_init 100 = .ok (.invokespecial 62, 3) := by decide +kernel
theorem dX9_init_103 : decode cX9_init 103 = .ok (.putfield 63, 3) := by decide +kernel
theorem dX9_init_106 : decode cX9_init 106 = .ok (.aload_n 0, 1) := by decide +kernel
theorem dX9_init_107 : decode cX9_init 107 = .ok (.new 67, 3) := by decide +kernel
theorem dX9_init_110 : decode cX9_init 110 = .ok (.dup, 1) := by decide +kernel
theorem dX9_init_111 : decode cX9_init 111 = .ok (.invokespecial 69, 3) := by decide +kernel
theorem dX9_init_114 : decode cX9_init 114 = .ok (.putfield 70, 3) := by decide +kernel
theorem dX9_init_117 : decode cX9_init 117 = .ok (.iconst 0, 1) := by decide +kernel
theorem dX9_init_118 : decode cX9_init 118 = .ok (.istore_n 1, 1) := by decide +kernel
theorem dX9_init_119 : decode cX9_init 119 = .ok (.iload_n 1, 1) := by decide +kernel
theorem dX9_init_120 : decode cX9_init 120 = .ok (.aload_n 0, 1) := by decide +kernel
theorem dX9_init_121 : decode cX9_init 121 = .ok (.getfield 28, 3) := by decide +kernel
theorem dX9_init_124 : decode cX9_init 124 = .ok (.arraylength, 1) := by decide +kernel
theorem dX9_init_125 : decode cX9_init 125 = .ok (.if_icmp .ge 22, 3) := by decide +kernel
theorem dX9_init_128 : decode cX9_init 128 = .ok (.aload_n 0, 1) := by decide +kernel
theorem dX9_init_129 : decode cX9_init 129 = .ok (.getfield 28, 3) := by decide +kernel
theorem dX9_init_132 : decode cX9_init 132 = .ok (.iload_n 1, 1) := by decide +kernel
theorem dX9_init_133 : decode cX9_init 133 = .ok (.new 26, 3) := by decide +kernel
theorem dX9_init_136 : decode cX9_init 136 = .ok (.dup, 1) := by decide +kernel
theorem dX9_init_137 : decode cX9_init 137 = .ok (.invokespecial 74, 3) := by decide +kernel
theorem dX9_init_140 : decode cX9_init 140 = .ok (.aastore, 1) := by decide +kernel
theorem dX9_init_141 : decode cX9_init 141 = .ok (.iinc 1 1, 3) := by decide +kernel
theorem dX9_init_144 : decode cX9_init 144 = .ok (.goto (-25), 3) := by decide +kernel
theorem dX9_init_147 : decode cX9_init 147 = .ok (.return_, 1) := by decide +kernel
theorem dX9_land_0 : decode cX9_land 0 = .ok (.aload_n 0, 1) := by decide +kernel
theorem dX9_land_1 : decode cX9_land 1 = .ok (.iload_n 1, 1) := by decide +kernel
theorem dX9_land_2 : decode cX9_land 2 = .ok (.invokevirtual 75, 3) := by decide +kernel
theorem dX9_land_5 : decode cX9_land 5 = .ok (.astore_n 2, 1) := by decide +kernel
theorem dX9_land_6 : decode cX9_land 6 = .ok (.aload_n 2, 1) := by decide +kernel
theorem dX9_land_7 : decode cX9_land 7 = .ok (.ifnonnull 5, 3) := by decide +kernel
theorem dX9_land_10 : decode cX9_land 10 = .ok (.iconst (-1), 1) := by decide +kernel
theorem dX9_land_11 : decode cX9_land 11 = .ok (.ireturn, 1) := by decide +kernel
theorem dX9_land_12 : decode cX9_land 12 = .ok (.aload_n 2, 1) := by decide +kernel
theorem dX9_land_13 : decode cX9_land 13 = .ok (.invokevirtual 79, 3) := by decide +kernel
theorem dX9_land_16 : decode cX9_land 16 = .ok (.istore_n 3, 1) := by decide +kernel
theorem dX9_land_17 : decode cX9_land 17 = .ok (.iload_n 3, 1) := by decide +kernel
theorem dX9_land_18 : decode cX9_land 18 = .ok (.ifCond .eq 5, 3) := by decide +kernel
theorem dX9_land_21 : decode cX9_land 21 = .ok (.iload_n 3, 1) := by decide +kernel
theorem dX9_land_22 : decode cX9_land 22 = .ok (.ireturn, 1) := by decide +kernel
theorem dX9_land_23 : decode cX9_land 23 = .ok (.aload_n 0, 1) := by decide +kernel
theorem dX9_land_24 : decode cX9_land 24 = .ok (.getfield 35, 3) := by decide +kernel
theorem dX9_land_27 : decode cX9_land 27 = .ok (.aload_n 2, 1) := by decide +kernel
theorem dX9_land_28 : decode cX9_land 28 = .ok (.invokevirtual 83, 3) := by decide +kernel
theorem dX9_land_31 : decode cX9_land 31 = .ok (.istore 4, 2) := by decide +kernel
theorem dX9_land_33 : decode cX9_land 33 = .ok (.iload 4, 2) := by decide +kernel
theorem dX9_land_35 : decode cX9_land 35 = .ok (.ifCond .ge 6, 3) := by decide +kernel
theorem dX9_land_38 : decode cX9_land 38 = .ok (.iload 4, 2) := by decide +kernel
theorem dX9_land_40 : decode cX9_land 40 = .ok (.ireturn, 1) := by decide +kernel
theorem dX9_land_41 : decode cX9_land 41 = .ok (.aload_n 0, 1) := by decide +kernel
theorem dX9_land_42 : decode cX9_land 42 = .ok (.getfield 16, 3) := by decide +kernel
theorem dX9_land_45 : decode cX9_land 45 = .ok (.aload_n 0, 1) := by decide +kernel
theorem dX9_land_46 : decode cX9_land 46 = .ok (.getfield 10, 3) := by decide +kernel
theorem dX9_land_49 : decode cX9_land 49 = .ok (.invokevirtual 87, 3) := by decide +kernel
theorem dX9_land_52 : decode cX9_land 52 = .ok (.aload_n 0, 1) := by decide +kernel
theorem dX9_land_53 : decode cX9_land 53 = .ok (.getfield 35, 3) := by decide +kernel
theorem dX9_land_56 : decode cX9_land 56 = .ok (.aload_n 0, 1) := by decide +kernel
theorem dX9_land_57 : decode cX9_land 57 = .ok (.getfield 16, 3) := by decide +kernel
theorem dX9_land_60 : decode cX9_land 60 = .ok (.aload_n 2, 1) := by decide +kernel
theorem dX9_land_61 : decode cX9_land 61 = .ok (.iload 4, 2) := by decide +kernel
theorem dX9_land_63 : decode cX9_land 63 = .ok (.invokevirtual 91, 3) := by decide +kernel
theorem dX9_land_66 : decode cX9_land 66 = .ok (.istore 5, 2) := by decide +kernel
theorem dX9_land_68 : decode cX9_land 68 = .ok (.iload 5, 2) := by decide +kernel
theorem dX9_land_70 : decode cX9_land 70 = .ok (.ifCond .ge 6, 3) := by decide +kernel
theorem dX9_land_73 : decode cX9_land 73 = .ok (.iload 5, 2) := by decide +kernel
theorem dX9_land_75 : decode cX9_land 75 = .ok (.ireturn, 1) := by decide +kernel
theorem dX9_land_76 : decode cX9_land 76 = .ok (.aload_n 0, 1) := by decide +kernel
theorem dX9_land_77 : decode cX9_land 77 = .ok (.getfield 10, 3) := by decide +kernel
theorem dX9_land_80 : decode cX9_land 80 = .ok (.aload_n 0, 1) := by decide +kernel
theorem dX9_land_81 : decode cX9_land 81 = .ok (.getfield 16, 3) := by decide +kernel
theorem dX9_land_84 : decode cX9_land 84 = .ok (.invokevirtual 87, 3) := by decide +kernel
theorem dX9_land_87 : decode cX9_land 87 = .ok (.iload 4, 2) := by decide +kernel
theorem dX9_land_89 : decode cX9_land 89 = .ok (.ireturn, 1) := by decide +kernel
theorem dX9_field_0 : decode cX9_field 0 = .ok (.aload_n 0, 1) := by decide +kernel
theorem dX9_field_1 : decode cX9_field 1 = .ok (.getfield 10, 3) := by decide +kernel
theorem dX9_field_4 : decode cX9_field 4 = .ok (.iload_n 1, 1) := by decide +kernel
theorem dX9_field_5 : decode cX9_field 5 = .ok (.invokevirtual 95, 3) := by decide +kernel
theorem dX9_field_8 : decode cX9_field 8 = .ok (.ifCond .eq 12, 3) := by decide +kernel
theorem dX9_field_11 : decode cX9_field 11 = .ok (.iload_n 2, 1) := by decide +kernel
theorem dX9_field_12 : decode cX9_field 12 = .ok (.ifCond .lt 8, 3) := by decide +kernel
theorem dX9_field_15 : decode cX9_field 15 = .ok (.iload_n 2, 1) := by decide +kernel
theorem dX9_field_16 : decode cX9_field 16 = .ok (.iconst 2, 1) := by decide +kernel
theorem dX9_field_17 : decode cX9_field 17 = .ok (.if_icmp .le 5, 3) := by decide +kernel
theorem dX9_field_20 : decode cX9_field 20 = .ok (.iconst (-1), 1) := by decide +kernel
theorem dX9_field_21 : decode cX9_field 21 = .ok (.ireturn, 1) := by decide +kernel
theorem dX9_field_22 : decode cX9_field 22 = .ok (.iload_n 2, 1) := by decide +kernel
theorem dX9_field_23 : decode cX9_field 23 = .ok (.ifCond .ne 12, 3) := by decide +kernel
theorem dX9_field_26 : decode cX9_field 26 = .ok (.aload_n 0, 1) := by decide +kernel
theorem dX9_field_27 : decode cX9_field 27 = .ok (.getfield 10, 3) := by decide +kernel
theorem dX9_field_30 : decode cX9_field 30 = .ok (.iload_n 1, 1) := by decide +kernel
theorem dX9_field_31 : decode cX9_field 31 = .ok (.invokevirtual 99, 3) := by decide +kernel
theorem dX9_field_34 : decode cX9_field 34 = .ok (.ireturn, 1) := by decide +kernel
theorem dX9_field_35 : decode cX9_field 35 = .ok (.iload_n 2, 1) := by decide +kernel
theorem dX9_field_36 : decode cX9_field 36 = .ok (.iconst 1, 1) := by decide +kernel
theorem dX9_field_37 : decode cX9_field 37 = .ok (.if_icmp .ne 17, 3) := by decide +kernel
theorem dX9_field_40 : decode cX9_field 40 = .ok (.aload_n 0, 1) := by decide +kernel
theorem dX9_field_41 : decode cX9_field 41 = .ok (.getfield 10, 3) := by decide +kernel
theorem dX9_field_44 : decode cX9_field 44 = .ok (.iload_n 1, 1) := by decide +kernel
theorem dX9_field_45 : decode cX9_field 45 = .ok (.invokevirtual 103, 3) := by decide +kernel
theorem dX9_field_48 : decode cX9_field 48 = .ok (.invokestatic 106, 3) := by decide +kernel
theorem dX9_field_51 : decode cX9_field 51 = .ok (.goto 11, 3) := by decide +kernel
theorem dX9_field_54 : decode cX9_field 54 = .ok (.aload_n 0, 1) := by decide +kernel
theorem dX9_field_55 : decode cX9_field 55 = .ok (.getfield 10, 3) := by decide +kernel
theorem dX9_field_58 : decode cX9_field 58 = .ok (.iload_n 1, 1) := by decide +kernel
theorem dX9_field_59 : decode cX9_field 59 = .ok (.invokevirtual 109, 3) := by decide +kernel
theorem dX9_field_62 : decode cX9_field 62 = .ok (.ireturn, 1) := by decide +kernel
theorem dX9_touch_0 : decode cX9_touch 0 = .ok (.aload_n 0, 1) := by decide +kernel
theorem dX9_touch_1 : decode cX9_touch 1 = .ok (.getfield 10, 3) := by decide +kernel
theorem dX9_touch_4 : decode cX9_touch 4 = .ok (.iload_n 1, 1) := by decide +kernel
theorem dX9_touch_5 : decode cX9_touch 5 = .ok (.iload_n 2, 1) := by decide +kernel
theorem dX9_touch_6 : decode cX9_touch 6 = .ok (.invokevirtual 112, 3) := by decide +kernel
theorem dX9_touch_9 : decode cX9_touch 9 = .ok (.ifCond .eq 15, 3) := by decide +kernel
theorem dX9_touch_12 : decode cX9_touch 12 = .ok (.aload_n 0, 1) := by decide +kernel
theorem dX9_touch_13 : decode cX9_touch 13 = .ok (.getfield 10, 3) := by decide +kernel
theorem dX9_touch_16 : decode cX9_touch 16 = .ok (.iload_n 1, 1) := by decide +kernel
theorem dX9_touch_17 : decode cX9_touch 17 = .ok (.iload_n 2, 1) := by decide +kernel
theorem dX9_touch_18 : decode cX9_touch 18 = .ok (.invokevirtual 116, 3) := by decide +kernel
theorem dX9_touch_21 : decode cX9_touch 21 = .ok (.goto 4, 3) := by decide +kernel
theorem dX9_touch_24 : decode cX9_touch 24 = .ok (.iconst (-1), 1) := by decide +kernel
theorem dX9_touch_25 : decode cX9_touch 25 = .ok (.ireturn, 1) := by decide +kernel
theorem dX9_person_0 : decode cX9_person 0 = .ok (.aload_n 0, 1) := by decide +kernel
theorem dX9_person_1 : decode cX9_person 1 = .ok (.getfield 10, 3) := by decide +kernel
theorem dX9_person_4 : decode cX9_person 4 = .ok (.iload_n 1, 1) := by decide +kernel
theorem dX9_person_5 : decode cX9_person 5 = .ok (.invokevirtual 120, 3) := by decide +kernel
theorem dX9_person_8 : decode cX9_person 8 = .ok (.ifCond .ne 5, 3) := by decide +kernel
theorem dX9_person_11 : decode cX9_person 11 = .ok (.iconst (-1), 1) := by decide +kernel
theorem dX9_person_12 : decode cX9_person 12 = .ok (.ireturn, 1) := by decide +kernel
theorem dX9_person_13 : decode cX9_person 13 = .ok (.iload_n 2, 1) := by decide +kernel
theorem dX9_person_14 : decode cX9_person 14 = .ok (.tableswitch 69 0 3 #[30, 39, 51, 60], 30) := by decide +kernel
theorem dX9_person_44 : decode cX9_person 44 = .ok (.aload_n 0, 1) := by decide +kernel
theorem dX9_person_45 : decode cX9_person 45 = .ok (.getfield 10, 3) := by decide +kernel
theorem dX9_person_48 : decode cX9_person 48 = .ok (.iload_n 1, 1) := by decide +kernel
theorem dX9_person_49 : decode cX9_person 49 = .ok (.invokevirtual 123, 3) := by decide +kernel
theorem dX9_person_52 : decode cX9_person 52 = .ok (.ireturn, 1) := by decide +kernel
theorem dX9_person_53 : decode cX9_person 53 = .ok (.aload_n 0, 1) := by decide +kernel
theorem dX9_person_54 : decode cX9_person 54 = .ok (.getfield 10, 3) := by decide +kernel
theorem dX9_person_57 : decode cX9_person 57 = .ok (.iload_n 1, 1) := by decide +kernel
theorem dX9_person_58 : decode cX9_person 58 = .ok (.invokevirtual 126, 3) := by decide +kernel
theorem dX9_person_61 : decode cX9_person 61 = .ok (.invokestatic 106, 3) := by decide +kernel
theorem dX9_person_64 : decode cX9_person 64 = .ok (.ireturn, 1) := by decide +kernel
theorem dX9_person_65 : decode cX9_person 65 = .ok (.aload_n 0, 1) := by decide +kernel
theorem dX9_person_66 : decode cX9_person 66 = .ok (.getfield 10, 3) := by decide +kernel
theorem dX9_person_69 : decode cX9_person 69 = .ok (.iload_n 1, 1) := by decide +kernel
theorem dX9_person_70 : decode cX9_person 70 = .ok (.invokevirtual 129, 3) := by decide +kernel
theorem dX9_person_73 : decode cX9_person 73 = .ok (.ireturn, 1) := by decide +kernel
theorem dX9_person_74 : decode cX9_person 74 = .ok (.aload_n 0, 1) := by decide +kernel
theorem dX9_person_75 : decode cX9_person 75 = .ok (.getfield 10, 3) := by decide +kernel
theorem dX9_person_78 : decode cX9_person 78 = .ok (.iload_n 1, 1) := by decide +kernel
theorem dX9_person_79 : decode cX9_person 79 = .ok (.invokevirtual 132, 3) := by decide +kernel
theorem dX9_person_82 : decode cX9_person 82 = .ok (.ireturn, 1) := by decide +kernel
theorem dX9_person_83 : decode cX9_person 83 = .ok (.iconst (-1), 1) := by decide +kernel
theorem dX9_person_84 : decode cX9_person 84 = .ok (.ireturn, 1) := by decide +kernel
theorem dX9_worth_0 : decode cX9_worth 0 = .ok (.aload_n 0, 1) := by decide +kernel
theorem dX9_worth_1 : decode cX9_worth 1 = .ok (.getfield 10, 3) := by decide +kernel
theorem dX9_worth_4 : decode cX9_worth 4 = .ok (.iload_n 1, 1) := by decide +kernel
theorem dX9_worth_5 : decode cX9_worth 5 = .ok (.invokevirtual 120, 3) := by decide +kernel
theorem dX9_worth_8 : decode cX9_worth 8 = .ok (.ifCond .eq 14, 3) := by decide +kernel
theorem dX9_worth_11 : decode cX9_worth 11 = .ok (.aload_n 0, 1) := by decide +kernel
theorem dX9_worth_12 : decode cX9_worth 12 = .ok (.getfield 10, 3) := by decide +kernel
theorem dX9_worth_15 : decode cX9_worth 15 = .ok (.iload_n 2, 1) := by decide +kernel
theorem dX9_worth_16 : decode cX9_worth 16 = .ok (.invokevirtual 95, 3) := by decide +kernel
theorem dX9_worth_19 : decode cX9_worth 19 = .ok (.ifCond .ne 5, 3) := by decide +kernel
theorem dX9_worth_22 : decode cX9_worth 22 = .ok (.iconst (-1), 1) := by decide +kernel
theorem dX9_worth_23 : decode cX9_worth 23 = .ok (.ireturn, 1) := by decide +kernel
theorem dX9_worth_24 : decode cX9_worth 24 = .ok (.aload_n 0, 1) := by decide +kernel
theorem dX9_worth_25 : decode cX9_worth 25 = .ok (.getfield 10, 3) := by decide +kernel
theorem dX9_worth_28 : decode cX9_worth 28 = .ok (.iload_n 1, 1) := by decide +kernel
theorem dX9_worth_29 : decode cX9_worth 29 = .ok (.iload_n 2, 1) := by decide +kernel
theorem dX9_worth_30 : decode cX9_worth 30 = .ok (.invokevirtual 135, 3) := by decide +kernel
theorem dX9_worth_33 : decode cX9_worth 33 = .ok (.ireturn, 1) := by decide +kernel
theorem dX9_law_0 : decode cX9_law 0 = .ok (.iload_n 1, 1) := by decide +kernel
theorem dX9_law_1 : decode cX9_law 1 = .ok (.ifCond .lt 17, 3) := by decide +kernel
theorem dX9_law_4 : decode cX9_law 4 = .ok (.iload_n 1, 1) := by decide +kernel
theorem dX9_law_5 : decode cX9_law 5 = .ok (.iconst 1, 1) := by decide +kernel
theorem dX9_law_6 : decode cX9_law 6 = .ok (.if_icmp .gt 12, 3) := by decide +kernel
theorem dX9_law_9 : decode cX9_law 9 = .ok (.iload_n 2, 1) := by decide +kernel
theorem dX9_law_10 : decode cX9_law 10 = .ok (.ifCond .lt 8, 3) := by decide +kernel
theorem dX9_law_13 : decode cX9_law 13 = .ok (.iload_n 2, 1) := by decide +kernel
theorem dX9_law_14 : decode cX9_law 14 = .ok (.iconst 1, 1) := by decide +kernel
theorem dX9_law_15 : decode cX9_law 15 = .ok (.if_icmp .le 5, 3) := by decide +kernel
theorem dX9_law_18 : decode cX9_law 18 = .ok (.iconst (-1), 1) := by decide +kernel
theorem dX9_law_19 : decode cX9_law 19 = .ok (.ireturn, 1) := by decide +kernel
theorem dX9_law_20 : decode cX9_law 20 = .ok (.iload_n 1, 1) := by decide +kernel
theorem dX9_law_21 : decode cX9_law 21 = .ok (.ifCond .ne 13, 3) := by decide +kernel
theorem dX9_law_24 : decode cX9_law 24 = .ok (.aload_n 0, 1) := by decide +kernel
theorem dX9_law_25 : decode cX9_law 25 = .ok (.getfield 10, 3) := by decide +kernel
theorem dX9_law_28 : decode cX9_law 28 = .ok (.getfield 138, 3) := by decide +kernel
theorem dX9_law_31 : decode cX9_law 31 = .ok (.goto 10, 3) := by decide +kernel
theorem dX9_law_34 : decode cX9_law 34 = .ok (.aload_n 0, 1) := by decide +kernel
theorem dX9_law_35 : decode cX9_law 35 = .ok (.getfield 10, 3) := by decide +kernel
theorem dX9_law_38 : decode cX9_law 38 = .ok (.getfield 141, 3) := by decide +kernel
theorem dX9_law_41 : decode cX9_law 41 = .ok (.istore_n 3, 1) := by decide +kernel
theorem dX9_law_42 : decode cX9_law 42 = .ok (.aload_n 0, 1) := by decide +kernel
theorem dX9_law_43 : decode cX9_law 43 = .ok (.getfield 10, 3) := by decide +kernel
theorem dX9_law_46 : decode cX9_law 46 = .ok (.iload_n 1, 1) := by decide +kernel
theorem dX9_law_47 : decode cX9_law 47 = .ok (.iload_n 2, 1) := by decide +kernel
theorem dX9_law_48 : decode cX9_law 48 = .ok (.iconst 1, 1) := by decide +kernel
theorem dX9_law_49 : decode cX9_law 49 = .ok (.if_icmp .ne 7, 3) := by decide +kernel
theorem dX9_law_52 : decode cX9_law 52 = .ok (.iconst 1, 1) := by decide +kernel
theorem dX9_law_53 : decode cX9_law 53 = .ok (.goto 4, 3) := by decide +kernel
theorem dX9_law_56 : decode cX9_law 56 = .ok (.iconst 0, 1) := by decide +kernel
theorem dX9_law_57 : decode cX9_law 57 = .ok (.invokevirtual 144, 3) := by decide +kernel
theorem dX9_law_60 : decode cX9_law 60 = .ok (.iload_n 3, 1) := by decide +kernel
theorem dX9_law_61 : decode cX9_law 61 = .ok (.ifCond .eq 7, 3) := by decide +kernel
theorem dX9_law_64 : decode cX9_law 64 = .ok (.iconst 1, 1) := by decide +kernel
theorem dX9_law_65 : decode cX9_law 65 = .ok (.goto 4, 3) := by decide +kernel
theorem dX9_law_68 : decode cX9_law 68 = .ok (.iconst 0, 1) := by decide +kernel
theorem dX9_law_69 : decode cX9_law 69 = .ok (.ireturn, 1) := by decide +kernel
theorem dX9_owns_0 : decode cX9_owns 0 = .ok (.aload_n 0, 1) := by decide +kernel
theorem dX9_owns_1 : decode cX9_owns 1 = .ok (.getfield 10, 3) := by decide +kernel
theorem dX9_owns_4 : decode cX9_owns 4 = .ok (.iload_n 1, 1) := by decide +kernel
theorem dX9_owns_5 : decode cX9_owns 5 = .ok (.invokevirtual 148, 3) := by decide +kernel
theorem dX9_owns_8 : decode cX9_owns 8 = .ok (.ifCond .eq 14, 3) := by decide +kernel
theorem dX9_owns_11 : decode cX9_owns 11 = .ok (.aload_n 0, 1) := by decide +kernel
theorem dX9_owns_12 : decode cX9_owns 12 = .ok (.getfield 10, 3) := by decide +kernel
theorem dX9_owns_15 : decode cX9_owns 15 = .ok (.iload_n 2, 1) := by decide +kernel
theorem dX9_owns_16 : decode cX9_owns 16 = .ok (.invokevirtual 95, 3) := by decide +kernel
theorem dX9_owns_19 : decode cX9_owns 19 = .ok (.ifCond .ne 5, 3) := by decide +kernel
theorem dX9_owns_22 : decode cX9_owns 22 = .ok (.iconst (-1), 1) := by decide +kernel
theorem dX9_owns_23 : decode cX9_owns 23 = .ok (.ireturn, 1) := by decide +kernel
theorem dX9_owns_24 : decode cX9_owns 24 = .ok (.aload_n 0, 1) := by decide +kernel
theorem dX9_owns_25 : decode cX9_owns 25 = .ok (.getfield 10, 3) := by decide +kernel
theorem dX9_owns_28 : decode cX9_owns 28 = .ok (.iload_n 2, 1) := by decide +kernel
theorem dX9_owns_29 : decode cX9_owns 29 = .ok (.invokevirtual 103, 3) := by decide +kernel
theorem dX9_owns_32 : decode cX9_owns 32 = .ok (.istore_n 3, 1) := by decide +kernel
theorem dX9_owns_33 : decode cX9_owns 33 = .ok (.aload_n 0, 1) := by decide +kernel
theorem dX9_owns_34 : decode cX9_owns 34 = .ok (.getfield 10, 3) := by decide +kernel
theorem dX9_owns_37 : decode cX9_owns 37 = .ok (.iload_n 1, 1) := by decide +kernel
theorem dX9_owns_38 : decode cX9_owns 38 = .ok (.iload_n 2, 1) := by decide +kernel
theorem dX9_owns_39 : decode cX9_owns 39 = .ok (.invokevirtual 151, 3) := by decide +kernel
theorem dX9_owns_42 : decode cX9_owns 42 = .ok (.pop, 1) := by decide +kernel
theorem dX9_owns_43 : decode cX9_owns 43 = .ok (.iload_n 3, 1) := by decide +kernel
theorem dX9_owns_44 : decode cX9_owns 44 = .ok (.ireturn, 1) := by decide +kernel
theorem dX9_lawful_0 : decode cX9_lawful 0 = .ok (.aload_n 0, 1) := by decide +kernel
theorem dX9_lawful_1 : decode cX9_lawful 1 = .ok (.getfield 10, 3) := by decide +kernel
theorem dX9_lawful_4 : decode cX9_lawful 4 = .ok (.invokevirtual 154, 3) := by decide +kernel
theorem dX9_lawful_7 : decode cX9_lawful 7 = .ok (.ifCond .eq 7, 3) := by decide +kernel
theorem dX9_lawful_10 : decode cX9_lawful 10 = .ok (.iconst 1, 1) := by decide +kernel
theorem dX9_lawful_11 : decode cX9_lawful 11 = .ok (.goto 4, 3) := by decide +kernel
theorem dX9_lawful_14 : decode cX9_lawful 14 = .ok (.iconst 0, 1) := by decide +kernel
theorem dX9_lawful_15 : decode cX9_lawful 15 = .ok (.ireturn, 1) := by decide +kernel
theorem dX9_firstUnlawful_0 : decode cX9_firstUnlawful 0 = .ok (.aload_n 0, 1) := by decide +kernel
theorem dX9_firstUnlawful_1 : decode cX9_firstUnlawful 1 = .ok (.getfield 10, 3) := by decide +kernel
theorem dX9_firstUnlawful_4 : decode cX9_firstUnlawful 4 = .ok (.iconst 0, 1) := by decide +kernel
theorem dX9_firstUnlawful_5 : decode cX9_firstUnlawful 5 = .ok (.invokevirtual 158, 3) := by decide +kernel
theorem dX9_firstUnlawful_8 : decode cX9_firstUnlawful 8 = .ok (.ireturn, 1) := by decide +kernel
theorem dX9_may_0 : decode cX9_may 0 = .ok (.aload_n 0, 1) := by decide +kernel
theorem dX9_may_1 : decode cX9_may 1 = .ok (.iload_n 1, 1) := by decide +kernel
theorem dX9_may_2 : decode cX9_may 2 = .ok (.invokevirtual 75, 3) := by decide +kernel
theorem dX9_may_5 : decode cX9_may 5 = .ok (.astore_n 3, 1) := by decide +kernel
theorem dX9_may_6 : decode cX9_may 6 = .ok (.aload_n 3, 1) := by decide +kernel
theorem dX9_may_7 : decode cX9_may 7 = .ok (.ifnull 12, 3) := by decide +kernel
theorem dX9_may_10 : decode cX9_may 10 = .ok (.iload_n 2, 1) := by decide +kernel
theorem dX9_may_11 : decode cX9_may 11 = .ok (.ifCond .lt 8, 3) := by decide +kernel
theorem dX9_may_14 : decode cX9_may 14 = .ok (.iload_n 2, 1) := by decide +kernel
theorem dX9_may_15 : decode cX9_may 15 = .ok (.iconst 1, 1) := by decide +kernel
theorem dX9_may_16 : decode cX9_may 16 = .ok (.if_icmp .le 5, 3) := by decide +kernel
theorem dX9_may_19 : decode cX9_may 19 = .ok (.iconst (-1), 1) := by decide +kernel
theorem dX9_may_20 : decode cX9_may 20 = .ok (.ireturn, 1) := by decide +kernel
theorem dX9_may_21 : decode cX9_may 21 = .ok (.aload_n 0, 1) := by decide +kernel
theorem dX9_may_22 : decode cX9_may 22 = .ok (.aload_n 3, 1) := by decide +kernel
theorem dX9_may_23 : decode cX9_may 23 = .ok (.invokevirtual 161, 3) := by decide +kernel
theorem dX9_may_26 : decode cX9_may 26 = .ok (.istore 4, 2) := by decide +kernel
theorem dX9_may_28 : decode cX9_may 28 = .ok (.iload 4, 2) := by decide +kernel
theorem dX9_may_30 : decode cX9_may 30 = .ok (.ifCond .eq 6, 3) := by decide +kernel
theorem dX9_may_33 : decode cX9_may 33 = .ok (.iload 4, 2) := by decide +kernel
theorem dX9_may_35 : decode cX9_may 35 = .ok (.ireturn, 1) := by decide +kernel
theorem dX9_may_36 : decode cX9_may 36 = .ok (.iload_n 2, 1) := by decide +kernel
theorem dX9_may_37 : decode cX9_may 37 = .ok (.ifCond .ne 14, 3) := by decide +kernel
theorem dX9_may_40 : decode cX9_may 40 = .ok (.aload_n 0, 1) := by decide +kernel
theorem dX9_may_41 : decode cX9_may 41 = .ok (.aload_n 3, 1) := by decide +kernel
theorem dX9_may_42 : decode cX9_may 42 = .ok (.getfield 164, 3) := by decide +kernel
theorem dX9_may_45 : decode cX9_may 45 = .ok (.invokevirtual 168, 3) := by decide +kernel
theorem dX9_may_48 : decode cX9_may 48 = .ok (.goto 11, 3) := by decide +kernel
theorem dX9_may_51 : decode cX9_may 51 = .ok (.aload_n 0, 1) := by decide +kernel
theorem dX9_may_52 : decode cX9_may 52 = .ok (.aload_n 3, 1) := by decide +kernel
theorem dX9_may_53 : decode cX9_may 53 = .ok (.getfield 164, 3) := by decide +kernel
theorem dX9_may_56 : decode cX9_may 56 = .ok (.invokevirtual 172, 3) := by decide +kernel
theorem dX9_may_59 : decode cX9_may 59 = .ok (.istore 5, 2) := by decide +kernel
theorem dX9_may_61 : decode cX9_may 61 = .ok (.iload 5, 2) := by decide +kernel
theorem dX9_may_63 : decode cX9_may 63 = .ok (.ifCond .eq 7, 3) := by decide +kernel
theorem dX9_may_66 : decode cX9_may 66 = .ok (.iconst 1, 1) := by decide +kernel
theorem dX9_may_67 : decode cX9_may 67 = .ok (.goto 4, 3) := by decide +kernel
theorem dX9_may_70 : decode cX9_may 70 = .ok (.iconst 0, 1) := by decide +kernel
theorem dX9_may_71 : decode cX9_may 71 = .ok (.ireturn, 1) := by decide +kernel
theorem dX9_move_0 : decode cX9_move 0 = .ok (.aload_n 0, 1) := by decide +kernel
theorem dX9_move_1 : decode cX9_move 1 = .ok (.iload_n 1, 1) := by decide +kernel
theorem dX9_move_2 : decode cX9_move 2 = .ok (.invokevirtual 75, 3) := by decide +kernel
theorem dX9_move_5 : decode cX9_move 5 = .ok (.astore_n 2, 1) := by decide +kernel
theorem dX9_move_6 : decode cX9_move 6 = .ok (.aload_n 2, 1) := by decide +kernel
theorem dX9_move_7 : decode cX9_move 7 = .ok (.ifnonnull 5, 3) := by decide +kernel
theorem dX9_move_10 : decode cX9_move 10 = .ok (.iconst (-1), 1) := by decide +kernel
theorem dX9_move_11 : decode cX9_move 11 = .ok (.ireturn, 1) := by decide +kernel
theorem dX9_move_12 : decode cX9_move 12 = .ok (.aload_n 0, 1) := by decide +kernel
theorem dX9_move_13 : decode cX9_move 13 = .ok (.aload_n 2, 1) := by decide +kernel
theorem dX9_move_14 : decode cX9_move 14 = .ok (.invokevirtual 161, 3) := by decide +kernel
theorem dX9_move_17 : decode cX9_move 17 = .ok (.istore_n 3, 1) := by decide +kernel
theorem dX9_move_18 : decode cX9_move 18 = .ok (.iload_n 3, 1) := by decide +kernel
theorem dX9_move_19 : decode cX9_move 19 = .ok (.ifCond .eq 5, 3) := by decide +kernel
theorem dX9_move_22 : decode cX9_move 22 = .ok (.iload_n 3, 1) := by decide +kernel
theorem dX9_move_23 : decode cX9_move 23 = .ok (.ireturn, 1) := by decide +kernel
theorem dX9_move_24 : decode cX9_move 24 = .ok (.aload_n 0, 1) := by decide +kernel
theorem dX9_move_25 : decode cX9_move 25 = .ok (.aload_n 2, 1) := by decide +kernel
theorem dX9_move_26 : decode cX9_move 26 = .ok (.getfield 164, 3) := by decide +kernel
theorem dX9_move_29 : decode cX9_move 29 = .ok (.invokevirtual 168, 3) := by decide +kernel
theorem dX9_move_32 : decode cX9_move 32 = .ok (.ifCond .ne 6, 3) := by decide +kernel
theorem dX9_move_35 : decode cX9_move 35 = .ok (.bipush (-3), 2) := by decide +kernel
theorem dX9_move_37 : decode cX9_move 37 = .ok (.ireturn, 1) := by decide +kernel
theorem dX9_move_38 : decode cX9_move 38 = .ok (.iconst 0, 1) := by decide +kernel
theorem dX9_move_39 : decode cX9_move 39 = .ok (.istore 4, 2) := by decide +kernel
theorem dX9_move_41 : decode cX9_move 41 = .ok (.iconst 0, 1) := by decide +kernel
theorem dX9_move_42 : decode cX9_move 42 = .ok (.istore 5, 2) := by decide +kernel
theorem dX9_move_44 : decode cX9_move 44 = .ok (.iload 5, 2) := by decide +kernel
theorem dX9_move_46 : decode cX9_move 46 = .ok (.aload_n 0, 1) := by decide +kernel
theorem dX9_move_47 : decode cX9_move 47 = .ok (.getfield 10, 3) := by decide +kernel
theorem dX9_move_50 : decode cX9_move 50 = .ok (.getfield 175, 3) := by decide +kernel
theorem dX9_move_53 : decode cX9_move 53 = .ok (.if_icmp .ge 40, 3) := by decide +kernel
theorem dX9_move_56 : decode cX9_move 56 = .ok (.iload 4, 2) := by decide +kernel
theorem dX9_move_58 : decode cX9_move 58 = .ok (.aload_n 0, 1) := by decide +kernel
theorem dX9_move_59 : decode cX9_move 59 = .ok (.getfield 16, 3) := by decide +kernel
theorem dX9_move_62 : decode cX9_move 62 = .ok (.iload 5, 2) := by decide +kernel
theorem dX9_move_64 : decode cX9_move 64 = .ok (.invokevirtual 103, 3) := by decide +kernel
theorem dX9_move_67 : decode cX9_move 67 = .ok (.aload_n 0, 1) := by decide +kernel
theorem dX9_move_68 : decode cX9_move 68 = .ok (.getfield 10, 3) := by decide +kernel
theorem dX9_move_71 : decode cX9_move 71 = .ok (.iload 5, 2) := by decide +kernel
theorem dX9_move_73 : decode cX9_move 73 = .ok (.invokevirtual 103, 3) := by decide +kernel
theorem dX9_move_76 : decode cX9_move 76 = .ok (.if_icmp .ne 7, 3) := by decide +kernel
theorem dX9_move_79 : decode cX9_move 79 = .ok (.iconst 0, 1) := by decide +kernel
theorem dX9_move_80 : decode cX9_move 80 = .ok (.goto 4, 3) := by decide +kernel
theorem dX9_move_83 : decode cX9_move 83 = .ok (.iconst 1, 1) := by decide +kernel
theorem dX9_move_84 : decode cX9_move 84 = .ok (.iadd, 1) := by decide +kernel
theorem dX9_move_85 : decode cX9_move 85 = .ok (.istore 4, 2) := by decide +kernel
theorem dX9_move_87 : decode cX9_move 87 = .ok (.iinc 5 1, 3) := by decide +kernel
theorem dX9_move_90 : decode cX9_move 90 = .ok (.goto (-46), 3) := by decide +kernel
theorem dX9_move_93 : decode cX9_move 93 = .ok (.aload_n 0, 1) := by decide +kernel
theorem dX9_move_94 : decode cX9_move 94 = .ok (.getfield 10, 3) := by decide +kernel
theorem dX9_move_97 : decode cX9_move 97 = .ok (.aload_n 0, 1) := by decide +kernel
theorem dX9_move_98 : decode cX9_move 98 = .ok (.getfield 16, 3) := by decide +kernel
theorem dX9_move_101 : decode cX9_move 101 = .ok (.invokevirtual 87, 3) := by decide +kernel
theorem dX9_move_104 : decode cX9_move 104 = .ok (.iload 4, 2) := by decide +kernel
theorem dX9_move_106 : decode cX9_move 106 = .ok (.ireturn, 1) := by decide +kernel
theorem dX9_judge_0 : decode cX9_judge 0 = .ok (.aload_n 0, 1) := by decide +kernel
theorem dX9_judge_1 : decode cX9_judge 1 = .ok (.iload_n 1, 1) := by decide +kernel
theorem dX9_judge_2 : decode cX9_judge 2 = .ok (.invokevirtual 75, 3) := by decide +kernel
theorem dX9_judge_5 : decode cX9_judge 5 = .ok (.astore_n 2, 1) := by decide +kernel
theorem dX9_judge_6 : decode cX9_judge 6 = .ok (.aload_n 2, 1) := by decide +kernel
theorem dX9_judge_7 : decode cX9_judge 7 = .ok (.ifnonnull 5, 3) := by decide +kernel
theorem dX9_judge_10 : decode cX9_judge 10 = .ok (.iconst (-1), 1) := by decide +kernel
theorem dX9_judge_11 : decode cX9_judge 11 = .ok (.ireturn, 1) := by decide +kernel
theorem dX9_judge_12 : decode cX9_judge 12 = .ok (.aload_n 2, 1) := by decide +kernel
theorem dX9_judge_13 : decode cX9_judge 13 = .ok (.invokevirtual 79, 3) := by decide +kernel
theorem dX9_judge_16 : decode cX9_judge 16 = .ok (.istore_n 3, 1) := by decide +kernel
theorem dX9_judge_17 : decode cX9_judge 17 = .ok (.iload_n 3, 1) := by decide +kernel
theorem dX9_judge_18 : decode cX9_judge 18 = .ok (.ifCond .eq 5, 3) := by decide +kernel
theorem dX9_judge_21 : decode cX9_judge 21 = .ok (.iload_n 3, 1) := by decide +kernel
theorem dX9_judge_22 : decode cX9_judge 22 = .ok (.ireturn, 1) := by decide +kernel
theorem dX9_judge_23 : decode cX9_judge 23 = .ok (.aload_n 0, 1) := by decide +kernel
theorem dX9_judge_24 : decode cX9_judge 24 = .ok (.getfield 16, 3) := by decide +kernel
theorem dX9_judge_27 : decode cX9_judge 27 = .ok (.aload_n 0, 1) := by decide +kernel
theorem dX9_judge_28 : decode cX9_judge 28 = .ok (.getfield 10, 3) := by decide +kernel
theorem dX9_judge_31 : decode cX9_judge 31 = .ok (.invokevirtual 87, 3) := by decide +kernel
theorem dX9_judge_34 : decode cX9_judge 34 = .ok (.iconst 0, 1) := by decide +kernel
theorem dX9_judge_35 : decode cX9_judge 35 = .ok (.istore 4, 2) := by decide +kernel
theorem dX9_judge_37 : decode cX9_judge 37 = .ok (.iload 4, 2) := by decide +kernel
theorem dX9_judge_39 : decode cX9_judge 39 = .ok (.iconst 1, 1) := by decide +kernel
theorem dX9_judge_40 : decode cX9_judge 40 = .ok (.iadd, 1) := by decide +kernel
theorem dX9_judge_41 : decode cX9_judge 41 = .ok (.aload_n 2, 1) := by decide +kernel
theorem dX9_judge_42 : decode cX9_judge 42 = .ok (.getfield 179, 3) := by decide +kernel
theorem dX9_judge_45 : decode cX9_judge 45 = .ok (.if_icmp .ge 50, 3) := by decide +kernel
theorem dX9_judge_48 : decode cX9_judge 48 = .ok (.aload_n 0, 1) := by decide +kernel
theorem dX9_judge_49 : decode cX9_judge 49 = .ok (.getfield 16, 3) := by decide +kernel
theorem dX9_judge_52 : decode cX9_judge 52 = .ok (.aload_n 2, 1) := by decide +kernel
theorem dX9_judge_53 : decode cX9_judge 53 = .ok (.iload 4, 2) := by decide +kernel
theorem dX9_judge_55 : decode cX9_judge 55 = .ok (.invokevirtual 182, 3) := by decide +kernel
theorem dX9_judge_58 : decode cX9_judge 58 = .ok (.aload_n 2, 1) := by decide +kernel
theorem dX9_judge_59 : decode cX9_judge 59 = .ok (.iload 4, 2) := by decide +kernel
theorem dX9_judge_61 : decode cX9_judge 61 = .ok (.iconst 1, 1) := by decide +kernel
theorem dX9_judge_62 : decode cX9_judge 62 = .ok (.iadd, 1) := by decide +kernel
theorem dX9_judge_63 : decode cX9_judge 63 = .ok (.invokevirtual 182, 3) := by decide +kernel
theorem dX9_judge_66 : decode cX9_judge 66 = .ok (.invokevirtual 151, 3) := by decide +kernel
theorem dX9_judge_69 : decode cX9_judge 69 = .ok (.istore 5, 2) := by decide +kernel
theorem dX9_judge_71 : decode cX9_judge 71 = .ok (.iload 5, 2) := by decide +kernel
theorem dX9_judge_73 : decode cX9_judge 73 = .ok (.ifCond .eq 13, 3) := by decide +kernel
theorem dX9_judge_76 : decode cX9_judge 76 = .ok (.aload_n 0, 1) := by decide +kernel
theorem dX9_judge_77 : decode cX9_judge 77 = .ok (.getfield 16, 3) := by decide +kernel
theorem dX9_judge_80 : decode cX9_judge 80 = .ok (.invokevirtual 154, 3) := by decide +kernel
theorem dX9_judge_83 : decode cX9_judge 83 = .ok (.ifCond .ne 6, 3) := by decide +kernel
theorem dX9_judge_86 : decode cX9_judge 86 = .ok (.iload 4, 2) := by decide +kernel
theorem dX9_judge_88 : decode cX9_judge 88 = .ok (.ireturn, 1) := by decide +kernel
theorem dX9_judge_89 : decode cX9_judge 89 = .ok (.iinc 4 2, 3) := by decide +kernel
theorem dX9_judge_92 : decode cX9_judge 92 = .ok (.goto (-55), 3) := by decide +kernel
theorem dX9_judge_95 : decode cX9_judge 95 = .ok (.aload_n 2, 1) := by decide +kernel
theorem dX9_judge_96 : decode cX9_judge 96 = .ok (.getfield 179, 3) := by decide +kernel
theorem dX9_judge_99 : decode cX9_judge 99 = .ok (.iconst 2, 1) := by decide +kernel
theorem dX9_judge_100 : decode cX9_judge 100 = .ok (.irem, 1) := by decide +kernel
theorem dX9_judge_101 : decode cX9_judge 101 = .ok (.iconst 1, 1) := by decide +kernel
theorem dX9_judge_102 : decode cX9_judge 102 = .ok (.if_icmp .ne 10, 3) := by decide +kernel
theorem dX9_judge_105 : decode cX9_judge 105 = .ok (.aload_n 2, 1) := by decide +kernel
theorem dX9_judge_106 : decode cX9_judge 106 = .ok (.getfield 179, 3) := by decide +kernel
theorem dX9_judge_109 : decode cX9_judge 109 = .ok (.goto 5, 3) := by decide +kernel
theorem dX9_judge_112 : decode cX9_judge 112 = .ok (.bipush (-4), 2) := by decide +kernel
theorem dX9_judge_114 : decode cX9_judge 114 = .ok (.ireturn, 1) := by decide +kernel
theorem dX9_fewest_0 : decode cX9_fewest 0 = .ok (.iload_n 1, 1) := by decide +kernel
theorem dX9_fewest_1 : decode cX9_fewest 1 = .ok (.iconst (-1), 1) := by decide +kernel
theorem dX9_fewest_2 : decode cX9_fewest 2 = .ok (.if_icmp .eq 16, 3) := by decide +kernel
theorem dX9_fewest_5 : decode cX9_fewest 5 = .ok (.aload_n 0, 1) := by decide +kernel
theorem dX9_fewest_6 : decode cX9_fewest 6 = .ok (.getfield 10, 3) := by decide +kernel
theorem dX9_fewest_9 : decode cX9_fewest 9 = .ok (.iload_n 1, 1) := by decide +kernel
theorem dX9_fewest_10 : decode cX9_fewest 10 = .ok (.invokevirtual 95, 3) := by decide +kernel
theorem dX9_fewest_13 : decode cX9_fewest 13 = .ok (.ifCond .ne 5, 3) := by decide +kernel
theorem dX9_fewest_16 : decode cX9_fewest 16 = .ok (.iconst (-1), 1) := by decide +kernel
theorem dX9_fewest_17 : decode cX9_fewest 17 = .ok (.ireturn, 1) := by decide +kernel
theorem dX9_fewest_18 : decode cX9_fewest 18 = .ok (.aload_n 0, 1) := by decide +kernel
theorem dX9_fewest_19 : decode cX9_fewest 19 = .ok (.getfield 49, 3) := by decide +kernel
theorem dX9_fewest_22 : decode cX9_fewest 22 = .ok (.aload_n 0, 1) := by decide +kernel
theorem dX9_fewest_23 : decode cX9_fewest 23 = .ok (.getfield 10, 3) := by decide +kernel
theorem dX9_fewest_26 : decode cX9_fewest 26 = .ok (.invokevirtual 185, 3) := by decide +kernel
theorem dX9_fewest_29 : decode cX9_fewest 29 = .ok (.istore_n 2, 1) := by decide +kernel
theorem dX9_fewest_30 : decode cX9_fewest 30 = .ok (.iload_n 1, 1) := by decide +kernel
theorem dX9_fewest_31 : decode cX9_fewest 31 = .ok (.iconst (-1), 1) := by decide +kernel
theorem dX9_fewest_32 : decode cX9_fewest 32 = .ok (.if_icmp .ne 7, 3) := by decide +kernel
theorem dX9_fewest_35 : decode cX9_fewest 35 = .ok (.iload_n 2, 1) := by decide +kernel
theorem dX9_fewest_36 : decode cX9_fewest 36 = .ok (.goto 11, 3) := by decide +kernel
theorem dX9_fewest_39 : decode cX9_fewest 39 = .ok (.aload_n 0, 1) := by decide +kernel
theorem dX9_fewest_40 : decode cX9_fewest 40 = .ok (.getfield 49, 3) := by decide +kernel
theorem dX9_fewest_43 : decode cX9_fewest 43 = .ok (.iload_n 1, 1) := by decide +kernel
theorem dX9_fewest_44 : decode cX9_fewest 44 = .ok (.invokevirtual 189, 3) := by decide +kernel
theorem dX9_fewest_47 : decode cX9_fewest 47 = .ok (.ireturn, 1) := by decide +kernel
theorem dX9_most_0 : decode cX9_most 0 = .ok (.aload_n 0, 1) := by decide +kernel
theorem dX9_most_1 : decode cX9_most 1 = .ok (.getfield 10, 3) := by decide +kernel
theorem dX9_most_4 : decode cX9_most 4 = .ok (.iload_n 1, 1) := by decide +kernel
theorem dX9_most_5 : decode cX9_most 5 = .ok (.invokevirtual 120, 3) := by decide +kernel
theorem dX9_most_8 : decode cX9_most 8 = .ok (.ifCond .eq 12, 3) := by decide +kernel
theorem dX9_most_11 : decode cX9_most 11 = .ok (.iload_n 2, 1) := by decide +kernel
theorem dX9_most_12 : decode cX9_most 12 = .ok (.ifCond .lt 8, 3) := by decide +kernel
theorem dX9_most_15 : decode cX9_most 15 = .ok (.iload_n 2, 1) := by decide +kernel
theorem dX9_most_16 : decode cX9_most 16 = .ok (.iconst 1, 1) := by decide +kernel
theorem dX9_most_17 : decode cX9_most 17 = .ok (.if_icmp .le 5, 3) := by decide +kernel
theorem dX9_most_20 : decode cX9_most 20 = .ok (.iconst (-1), 1) := by decide +kernel
theorem dX9_most_21 : decode cX9_most 21 = .ok (.ireturn, 1) := by decide +kernel
theorem dX9_most_22 : decode cX9_most 22 = .ok (.aload_n 0, 1) := by decide +kernel
theorem dX9_most_23 : decode cX9_most 23 = .ok (.iload_n 1, 1) := by decide +kernel
theorem dX9_most_24 : decode cX9_most 24 = .ok (.invokevirtual 192, 3) := by decide +kernel
theorem dX9_most_27 : decode cX9_most 27 = .ok (.istore_n 3, 1) := by decide +kernel
theorem dX9_most_28 : decode cX9_most 28 = .ok (.iload_n 2, 1) := by decide +kernel
theorem dX9_most_29 : decode cX9_most 29 = .ok (.ifCond .ne 7, 3) := by decide +kernel
theorem dX9_most_32 : decode cX9_most 32 = .ok (.iload_n 3, 1) := by decide +kernel
theorem dX9_most_33 : decode cX9_most 33 = .ok (.goto 12, 3) := by decide +kernel
theorem dX9_most_36 : decode cX9_most 36 = .ok (.aload_n 0, 1) := by decide +kernel
theorem dX9_most_37 : decode cX9_most 37 = .ok (.getfield 10, 3) := by decide +kernel
theorem dX9_most_40 : decode cX9_most 40 = .ok (.iload_n 1, 1) := by decide +kernel
theorem dX9_most_41 : decode cX9_most 41 = .ok (.iload_n 3, 1) := by decide +kernel
theorem dX9_most_42 : decode cX9_most 42 = .ok (.invokevirtual 195, 3) := by decide +kernel
theorem dX9_most_45 : decode cX9_most 45 = .ok (.ireturn, 1) := by decide +kernel
theorem dX9_best_0 : decode cX9_best 0 = .ok (.iload_n 1, 1) := by decide +kernel
theorem dX9_best_1 : decode cX9_best 1 = .ok (.iconst (-1), 1) := by decide +kernel
theorem dX9_best_2 : decode cX9_best 2 = .ok (.if_icmp .eq 16, 3) := by decide +kernel
theorem dX9_best_5 : decode cX9_best 5 = .ok (.aload_n 0, 1) := by decide +kernel
theorem dX9_best_6 : decode cX9_best 6 = .ok (.getfield 10, 3) := by decide +kernel
theorem dX9_best_9 : decode cX9_best 9 = .ok (.iload_n 1, 1) := by decide +kernel
theorem dX9_best_10 : decode cX9_best 10 = .ok (.invokevirtual 95, 3) := by decide +kernel
theorem dX9_best_13 : decode cX9_best 13 = .ok (.ifCond .ne 5, 3) := by decide +kernel
theorem dX9_best_16 : decode cX9_best 16 = .ok (.iconst (-1), 1) := by decide +kernel
theorem dX9_best_17 : decode cX9_best 17 = .ok (.ireturn, 1) := by decide +kernel
theorem dX9_best_18 : decode cX9_best 18 = .ok (.aload_n 0, 1) := by decide +kernel
theorem dX9_best_19 : decode cX9_best 19 = .ok (.getfield 42, 3) := by decide +kernel
theorem dX9_best_22 : decode cX9_best 22 = .ok (.aload_n 0, 1) := by decide +kernel
theorem dX9_best_23 : decode cX9_best 23 = .ok (.getfield 10, 3) := by decide +kernel
theorem dX9_best_26 : decode cX9_best 26 = .ok (.iconst 0, 1) := by decide +kernel
theorem dX9_best_27 : decode cX9_best 27 = .ok (.invokevirtual 198, 3) := by decide +kernel
theorem dX9_best_30 : decode cX9_best 30 = .ok (.iload_n 1, 1) := by decide +kernel
theorem dX9_best_31 : decode cX9_best 31 = .ok (.iconst (-1), 1) := by decide +kernel
theorem dX9_best_32 : decode cX9_best 32 = .ok (.if_icmp .ne 13, 3) := by decide +kernel
theorem dX9_best_35 : decode cX9_best 35 = .ok (.aload_n 0, 1) := by decide +kernel
theorem dX9_best_36 : decode cX9_best 36 = .ok (.getfield 42, 3) := by decide +kernel
theorem dX9_best_39 : decode cX9_best 39 = .ok (.getfield 202, 3) := by decide +kernel
theorem dX9_best_42 : decode cX9_best 42 = .ok (.goto 14, 3) := by decide +kernel
theorem dX9_best_45 : decode cX9_best 45 = .ok (.aload_n 0, 1) := by decide +kernel
theorem dX9_best_46 : decode cX9_best 46 = .ok (.getfield 42, 3) := by decide +kernel
theorem dX9_best_49 : decode cX9_best 49 = .ok (.iload_n 1, 1) := by decide +kernel
theorem dX9_best_50 : decode cX9_best 50 = .ok (.invokevirtual 205, 3) := by decide +kernel
theorem dX9_best_53 : decode cX9_best 53 = .ok (.invokestatic 106, 3) := by decide +kernel
theorem dX9_best_56 : decode cX9_best 56 = .ok (.ireturn, 1) := by decide +kernel
theorem dX9_withMusts_0 : decode cX9_withMusts 0 = .ok (.iload_n 1, 1) := by decide +kernel
theorem dX9_withMusts_1 : decode cX9_withMusts 1 = .ok (.iconst (-1), 1) := by decide +kernel
theorem dX9_withMusts_2 : decode cX9_withMusts 2 = .ok (.if_icmp .eq 16, 3) := by decide +kernel
theorem dX9_withMusts_5 : decode cX9_withMusts 5 = .ok (.aload_n 0, 1) := by decide +kernel
theorem dX9_withMusts_6 : decode cX9_withMusts 6 = .ok (.getfield 10, 3) := by decide +kernel
theorem dX9_withMusts_9 : decode cX9_withMusts 9 = .ok (.iload_n 1, 1) := by decide +kernel
theorem dX9_withMusts_10 : decode cX9_withMusts 10 = .ok (.invokevirtual 95, 3) := by decide +kernel
theorem dX9_withMusts_13 : decode cX9_withMusts 13 = .ok (.ifCond .ne 5, 3) := by decide +kernel
theorem dX9_withMusts_16 : decode cX9_withMusts 16 = .ok (.iconst (-1), 1) := by decide +kernel
theorem dX9_withMusts_17 : decode cX9_withMusts 17 = .ok (.ireturn, 1) := by decide +kernel
theorem dX9_withMusts_18 : decode cX9_withMusts 18 = .ok (.aload_n 0, 1) := by decide +kernel
theorem dX9_withMusts_19 : decode cX9_withMusts 19 = .ok (.getfield 10, 3) := by decide +kernel
theorem dX9_withMusts_22 : decode cX9_withMusts 22 = .ok (.invokevirtual 154, 3) := by decide +kernel
theorem dX9_withMusts_25 : decode cX9_withMusts 25 = .ok (.ifCond .ne 6, 3) := by decide +kernel
theorem dX9_withMusts_28 : decode cX9_withMusts 28 = .ok (.bipush (-4), 2) := by decide +kernel
theorem dX9_withMusts_30 : decode cX9_withMusts 30 = .ok (.ireturn, 1) := by decide +kernel
theorem dX9_withMusts_31 : decode cX9_withMusts 31 = .ok (.aload_n 0, 1) := by decide +kernel
theorem dX9_withMusts_32 : decode cX9_withMusts 32 = .ok (.getfield 42, 3) := by decide +kernel
theorem dX9_withMusts_35 : decode cX9_withMusts 35 = .ok (.aload_n 0, 1) := by decide +kernel
theorem dX9_withMusts_36 : decode cX9_withMusts 36 = .ok (.getfield 10, 3) := by decide +kernel
theorem dX9_withMusts_39 : decode cX9_withMusts 39 = .ok (.iconst 1, 1) := by decide +kernel
theorem dX9_withMusts_40 : decode cX9_withMusts 40 = .ok (.invokevirtual 198, 3) := by decide +kernel
theorem dX9_withMusts_43 : decode cX9_withMusts 43 = .ok (.iload_n 1, 1) := by decide +kernel
theorem dX9_withMusts_44 : decode cX9_withMusts 44 = .ok (.iconst (-1), 1) := by decide +kernel
theorem dX9_withMusts_45 : decode cX9_withMusts 45 = .ok (.if_icmp .ne 13, 3) := by decide +kernel
theorem dX9_withMusts_48 : decode cX9_withMusts 48 = .ok (.aload_n 0, 1) := by decide +kernel
theorem dX9_withMusts_49 : decode cX9_withMusts 49 = .ok (.getfield 42, 3) := by decide +kernel
theorem dX9_withMusts_52 : decode cX9_withMusts 52 = .ok (.getfield 202, 3) := by decide +kernel
theorem dX9_withMusts_55 : decode cX9_withMusts 55 = .ok (.goto 14, 3) := by decide +kernel
theorem dX9_withMusts_58 : decode cX9_withMusts 58 = .ok (.aload_n 0, 1) := by decide +kernel
theorem dX9_withMusts_59 : decode cX9_withMusts 59 = .ok (.getfield 42, 3) := by decide +kernel
theorem dX9_withMusts_62 : decode cX9_withMusts 62 = .ok (.iload_n 1, 1) := by decide +kernel
theorem dX9_withMusts_63 : decode cX9_withMusts 63 = .ok (.invokevirtual 205, 3) := by decide +kernel
theorem dX9_withMusts_66 : decode cX9_withMusts 66 = .ok (.invokestatic 106, 3) := by decide +kernel
theorem dX9_withMusts_69 : decode cX9_withMusts 69 = .ok (.ireturn, 1) := by decide +kernel
theorem dX9_chain_0 : decode cX9_chain 0 = .ok (.aload_n 0, 1) := by decide +kernel
theorem dX9_chain_1 : decode cX9_chain 1 = .ok (.iload_n 1, 1) := by decide +kernel
theorem dX9_chain_2 : decode cX9_chain 2 = .ok (.invokevirtual 75, 3) := by decide +kernel
theorem dX9_chain_5 : decode cX9_chain 5 = .ok (.astore_n 2, 1) := by decide +kernel
theorem dX9_chain_6 : decode cX9_chain 6 = .ok (.aload_n 2, 1) := by decide +kernel
theorem dX9_chain_7 : decode cX9_chain 7 = .ok (.ifnonnull 5, 3) := by decide +kernel
theorem dX9_chain_10 : decode cX9_chain 10 = .ok (.iconst (-1), 1) := by decide +kernel
theorem dX9_chain_11 : decode cX9_chain 11 = .ok (.ireturn, 1) := by decide +kernel
theorem dX9_chain_12 : decode cX9_chain 12 = .ok (.aload_n 2, 1) := by decide +kernel
theorem dX9_chain_13 : decode cX9_chain 13 = .ok (.invokevirtual 79, 3) := by decide +kernel
theorem dX9_chain_16 : decode cX9_chain 16 = .ok (.istore_n 3, 1) := by decide +kernel
theorem dX9_chain_17 : decode cX9_chain 17 = .ok (.iload_n 3, 1) := by decide +kernel
theorem dX9_chain_18 : decode cX9_chain 18 = .ok (.ifCond .eq 5, 3) := by decide +kernel
theorem dX9_chain_21 : decode cX9_chain 21 = .ok (.iload_n 3, 1) := by decide +kernel
theorem dX9_chain_22 : decode cX9_chain 22 = .ok (.ireturn, 1) := by decide +kernel
theorem dX9_chain_23 : decode cX9_chain 23 = .ok (.aload_n 2, 1) := by decide +kernel
theorem dX9_chain_24 : decode cX9_chain 24 = .ok (.getfield 179, 3) := by decide +kernel
theorem dX9_chain_27 : decode cX9_chain 27 = .ok (.aload_n 0, 1) := by decide +kernel
theorem dX9_chain_28 : decode cX9_chain 28 = .ok (.getfield 10, 3) := by decide +kernel
theorem dX9_chain_31 : decode cX9_chain 31 = .ok (.getfield 175, 3) := by decide +kernel
theorem dX9_chain_34 : decode cX9_chain 34 = .ok (.if_icmp .eq 6, 3) := by decide +kernel
theorem dX9_chain_37 : decode cX9_chain 37 = .ok (.bipush (-13), 2) := by decide +kernel
theorem dX9_chain_39 : decode cX9_chain 39 = .ok (.ireturn, 1) := by decide +kernel
theorem dX9_chain_40 : decode cX9_chain 40 = .ok (.aload_n 0, 1) := by decide +kernel
theorem dX9_chain_41 : decode cX9_chain 41 = .ok (.getfield 16, 3) := by decide +kernel
theorem dX9_chain_44 : decode cX9_chain 44 = .ok (.aload_n 0, 1) := by decide +kernel
theorem dX9_chain_45 : decode cX9_chain 45 = .ok (.getfield 10, 3) := by decide +kernel
theorem dX9_chain_48 : decode cX9_chain 48 = .ok (.invokevirtual 87, 3) := by decide +kernel
theorem dX9_chain_51 : decode cX9_chain 51 = .ok (.iconst 0, 1) := by decide +kernel
theorem dX9_chain_52 : decode cX9_chain 52 = .ok (.istore 4, 2) := by decide +kernel
theorem dX9_chain_54 : decode cX9_chain 54 = .ok (.iload 4, 2) := by decide +kernel
theorem dX9_chain_56 : decode cX9_chain 56 = .ok (.aload_n 0, 1) := by decide +kernel
theorem dX9_chain_57 : decode cX9_chain 57 = .ok (.getfield 10, 3) := by decide +kernel
theorem dX9_chain_60 : decode cX9_chain 60 = .ok (.getfield 175, 3) := by decide +kernel
theorem dX9_chain_63 : decode cX9_chain 63 = .ok (.if_icmp .ge 30, 3) := by decide +kernel
theorem dX9_chain_66 : decode cX9_chain 66 = .ok (.aload_n 0, 1) := by decide +kernel
theorem dX9_chain_67 : decode cX9_chain 67 = .ok (.getfield 16, 3) := by decide +kernel
theorem dX9_chain_70 : decode cX9_chain 70 = .ok (.aload_n 2, 1) := by decide +kernel
theorem dX9_chain_71 : decode cX9_chain 71 = .ok (.iload 4, 2) := by decide +kernel
theorem dX9_chain_73 : decode cX9_chain 73 = .ok (.invokevirtual 182, 3) := by decide +kernel
theorem dX9_chain_76 : decode cX9_chain 76 = .ok (.iload 4, 2) := by decide +kernel
theorem dX9_chain_78 : decode cX9_chain 78 = .ok (.invokevirtual 151, 3) := by decide +kernel
theorem dX9_chain_81 : decode cX9_chain 81 = .ok (.ifCond .ne 6, 3) := by decide +kernel
theorem dX9_chain_84 : decode cX9_chain 84 = .ok (.bipush (-13), 2) := by decide +kernel
theorem dX9_chain_86 : decode cX9_chain 86 = .ok (.ireturn, 1) := by decide +kernel
theorem dX9_chain_87 : decode cX9_chain 87 = .ok (.iinc 4 1, 3) := by decide +kernel
theorem dX9_chain_90 : decode cX9_chain 90 = .ok (.goto (-36), 3) := by decide +kernel
theorem dX9_chain_93 : decode cX9_chain 93 = .ok (.aload_n 0, 1) := by decide +kernel
theorem dX9_chain_94 : decode cX9_chain 94 = .ok (.getfield 56, 3) := by decide +kernel
theorem dX9_chain_97 : decode cX9_chain 97 = .ok (.aload_n 0, 1) := by decide +kernel
theorem dX9_chain_98 : decode cX9_chain 98 = .ok (.getfield 10, 3) := by decide +kernel
theorem dX9_chain_101 : decode cX9_chain 101 = .ok (.aload_n 0, 1) := by decide +kernel
theorem dX9_chain_102 : decode cX9_chain 102 = .ok (.getfield 16, 3) := by decide +kernel
theorem dX9_chain_105 : decode cX9_chain 105 = .ok (.invokevirtual 208, 3) := by decide +kernel
theorem dX9_chain_108 : decode cX9_chain 108 = .ok (.ireturn, 1) := by decide +kernel
theorem dX9_flood_0 : decode cX9_flood 0 = .ok (.aload_n 0, 1) := by decide +kernel
theorem dX9_flood_1 : decode cX9_flood 1 = .ok (.getfield 10, 3) := by decide +kernel
theorem dX9_flood_4 : decode cX9_flood 4 = .ok (.iload_n 1, 1) := by decide +kernel
theorem dX9_flood_5 : decode cX9_flood 5 = .ok (.iload_n 2, 1) := by decide +kernel
theorem dX9_flood_6 : decode cX9_flood 6 = .ok (.invokevirtual 112, 3) := by decide +kernel
theorem dX9_flood_9 : decode cX9_flood 9 = .ok (.ifCond .ne 5, 3) := by decide +kernel
theorem dX9_flood_12 : decode cX9_flood 12 = .ok (.iconst (-1), 1) := by decide +kernel
theorem dX9_flood_13 : decode cX9_flood 13 = .ok (.ireturn, 1) := by decide +kernel
theorem dX9_flood_14 : decode cX9_flood 14 = .ok (.aload_n 0, 1) := by decide +kernel
theorem dX9_flood_15 : decode cX9_flood 15 = .ok (.getfield 16, 3) := by decide +kernel
theorem dX9_flood_18 : decode cX9_flood 18 = .ok (.aload_n 0, 1) := by decide +kernel
theorem dX9_flood_19 : decode cX9_flood 19 = .ok (.getfield 10, 3) := by decide +kernel
theorem dX9_flood_22 : decode cX9_flood 22 = .ok (.invokevirtual 87, 3) := by decide +kernel
theorem dX9_flood_25 : decode cX9_flood 25 = .ok (.aload_n 0, 1) := by decide +kernel
theorem dX9_flood_26 : decode cX9_flood 26 = .ok (.getfield 16, 3) := by decide +kernel
theorem dX9_flood_29 : decode cX9_flood 29 = .ok (.iload_n 1, 1) := by decide +kernel
theorem dX9_flood_30 : decode cX9_flood 30 = .ok (.iload_n 2, 1) := by decide +kernel
theorem dX9_flood_31 : decode cX9_flood 31 = .ok (.iconst 1, 1) := by decide +kernel
theorem dX9_flood_32 : decode cX9_flood 32 = .ok (.invokevirtual 212, 3) := by decide +kernel
theorem dX9_flood_35 : decode cX9_flood 35 = .ok (.iconst 0, 1) := by decide +kernel
theorem dX9_flood_36 : decode cX9_flood 36 = .ok (.istore_n 3, 1) := by decide +kernel
theorem dX9_flood_37 : decode cX9_flood 37 = .ok (.ldc 216, 2) := by decide +kernel
theorem dX9_flood_39 : decode cX9_flood 39 = .ok (.istore 4, 2) := by decide +kernel
theorem dX9_flood_41 : decode cX9_flood 41 = .ok (.iconst 0, 1) := by decide +kernel
theorem dX9_flood_42 : decode cX9_flood 42 = .ok (.istore 5, 2) := by decide +kernel
theorem dX9_flood_44 : decode cX9_flood 44 = .ok (.iload 5, 2) := by decide +kernel
theorem dX9_flood_46 : decode cX9_flood 46 = .ok (.iconst 1, 1) := by decide +kernel
theorem dX9_flood_47 : decode cX9_flood 47 = .ok (.aload_n 0, 1) := by decide +kernel
theorem dX9_flood_48 : decode cX9_flood 48 = .ok (.getfield 16, 3) := by decide +kernel
theorem dX9_flood_51 : decode cX9_flood 51 = .ok (.getfield 175, 3) := by decide +kernel
theorem dX9_flood_54 : decode cX9_flood 54 = .ok (.ishl, 1) := by decide +kernel
theorem dX9_flood_55 : decode cX9_flood 55 = .ok (.if_icmp .ge 48, 3) := by decide +kernel
theorem dX9_flood_58 : decode cX9_flood 58 = .ok (.aload_n 0, 1) := by decide +kernel
theorem dX9_flood_59 : decode cX9_flood 59 = .ok (.getfield 16, 3) := by decide +kernel
theorem dX9_flood_62 : decode cX9_flood 62 = .ok (.iload 5, 2) := by decide +kernel
theorem dX9_flood_64 : decode cX9_flood 64 = .ok (.invokevirtual 217, 3) := by decide +kernel
theorem dX9_flood_67 : decode cX9_flood 67 = .ok (.istore 6, 2) := by decide +kernel
theorem dX9_flood_69 : decode cX9_flood 69 = .ok (.iload 6, 2) := by decide +kernel
theorem dX9_flood_71 : decode cX9_flood 71 = .ok (.iload 4, 2) := by decide +kernel
theorem dX9_flood_73 : decode cX9_flood 73 = .ok (.if_icmp .ge 24, 3) := by decide +kernel
theorem dX9_flood_76 : decode cX9_flood 76 = .ok (.aload_n 0, 1) := by decide +kernel
theorem dX9_flood_77 : decode cX9_flood 77 = .ok (.getfield 16, 3) := by decide +kernel
theorem dX9_flood_80 : decode cX9_flood 80 = .ok (.iload 5, 2) := by decide +kernel
theorem dX9_flood_82 : decode cX9_flood 82 = .ok (.invokevirtual 158, 3) := by decide +kernel
theorem dX9_flood_85 : decode cX9_flood 85 = .ok (.bipush (-4), 2) := by decide +kernel
theorem dX9_flood_87 : decode cX9_flood 87 = .ok (.if_icmp .ne 10, 3) := by decide +kernel
theorem dX9_flood_90 : decode cX9_flood 90 = .ok (.iload 6, 2) := by decide +kernel
theorem dX9_flood_92 : decode cX9_flood 92 = .ok (.istore 4, 2) := by decide +kernel
theorem dX9_flood_94 : decode cX9_flood 94 = .ok (.iload 5, 2) := by decide +kernel
theorem dX9_flood_96 : decode cX9_flood 96 = .ok (.istore_n 3, 1) := by decide +kernel
theorem dX9_flood_97 : decode cX9_flood 97 = .ok (.iinc 5 1, 3) := by decide +kernel
theorem dX9_flood_100 : decode cX9_flood 100 = .ok (.goto (-56), 3) := by decide +kernel
theorem dX9_flood_103 : decode cX9_flood 103 = .ok (.iload_n 3, 1) := by decide +kernel
theorem dX9_flood_104 : decode cX9_flood 104 = .ok (.ireturn, 1) := by decide +kernel
theorem dX9_frees_0 : decode cX9_frees 0 = .ok (.aload_n 0, 1) := by decide +kernel
theorem dX9_frees_1 : decode cX9_frees 1 = .ok (.getfield 16, 3) := by decide +kernel
theorem dX9_frees_4 : decode cX9_frees 4 = .ok (.aload_n 0, 1) := by decide +kernel
theorem dX9_frees_5 : decode cX9_frees 5 = .ok (.getfield 10, 3) := by decide +kernel
theorem dX9_frees_8 : decode cX9_frees 8 = .ok (.invokevirtual 87, 3) := by decide +kernel
theorem dX9_frees_11 : decode cX9_frees 11 = .ok (.aload_n 0, 1) := by decide +kernel
theorem dX9_frees_12 : decode cX9_frees 12 = .ok (.getfield 42, 3) := by decide +kernel
theorem dX9_frees_15 : decode cX9_frees 15 = .ok (.aload_n 0, 1) := by decide +kernel
theorem dX9_frees_16 : decode cX9_frees 16 = .ok (.getfield 16, 3) := by decide +kernel
theorem dX9_frees_19 : decode cX9_frees 19 = .ok (.iconst 0, 1) := by decide +kernel
theorem dX9_frees_20 : decode cX9_frees 20 = .ok (.invokevirtual 198, 3) := by decide +kernel
theorem dX9_frees_23 : decode cX9_frees 23 = .ok (.aload_n 0, 1) := by decide +kernel
theorem dX9_frees_24 : decode cX9_frees 24 = .ok (.getfield 42, 3) := by decide +kernel
theorem dX9_frees_27 : decode cX9_frees 27 = .ok (.getfield 202, 3) := by decide +kernel
theorem dX9_frees_30 : decode cX9_frees 30 = .ok (.istore_n 1, 1) := by decide +kernel
theorem dX9_frees_31 : decode cX9_frees 31 = .ok (.bipush (-4), 2) := by decide +kernel
theorem dX9_frees_33 : decode cX9_frees 33 = .ok (.istore_n 2, 1) := by decide +kernel
theorem dX9_frees_34 : decode cX9_frees 34 = .ok (.iconst 0, 1) := by decide +kernel
theorem dX9_frees_35 : decode cX9_frees 35 = .ok (.istore_n 3, 1) := by decide +kernel
theorem dX9_frees_36 : decode cX9_frees 36 = .ok (.iload_n 3, 1) := by decide +kernel
theorem dX9_frees_37 : decode cX9_frees 37 = .ok (.aload_n 0, 1) := by decide +kernel
theorem dX9_frees_38 : decode cX9_frees 38 = .ok (.getfield 16, 3) := by decide +kernel
theorem dX9_frees_41 : decode cX9_frees 41 = .ok (.getfield 175, 3) := by decide +kernel
theorem dX9_frees_44 : decode cX9_frees 44 = .ok (.if_icmp .ge 80, 3) := by decide +kernel
theorem dX9_frees_47 : decode cX9_frees 47 = .ok (.iload_n 3, 1) := by decide +kernel
theorem dX9_frees_48 : decode cX9_frees 48 = .ok (.iconst 1, 1) := by decide +kernel
theorem dX9_frees_49 : decode cX9_frees 49 = .ok (.iadd, 1) := by decide +kernel
theorem dX9_frees_50 : decode cX9_frees 50 = .ok (.istore 4, 2) := by decide +kernel
theorem dX9_frees_52 : decode cX9_frees 52 = .ok (.iload 4, 2) := by decide +kernel
theorem dX9_frees_54 : decode cX9_frees 54 = .ok (.aload_n 0, 1) := by decide +kernel
theorem dX9_frees_55 : decode cX9_frees 55 = .ok (.getfield 16, 3) := by decide +kernel
theorem dX9_frees_58 : decode cX9_frees 58 = .ok (.getfield 175, 3) := by decide +kernel
theorem dX9_frees_61 : decode cX9_frees 61 = .ok (.if_icmp .ge 57, 3) := by decide +kernel
theorem dX9_frees_64 : decode cX9_frees 64 = .ok (.aload_n 0, 1) := by decide +kernel
theorem dX9_frees_65 : decode cX9_frees 65 = .ok (.getfield 16, 3) := by decide +kernel
theorem dX9_frees_68 : decode cX9_frees 68 = .ok (.iload_n 3, 1) := by decide +kernel
theorem dX9_frees_69 : decode cX9_frees 69 = .ok (.iload 4, 2) := by decide +kernel
theorem dX9_frees_71 : decode cX9_frees 71 = .ok (.invokevirtual 116, 3) := by decide +kernel
theorem dX9_frees_74 : decode cX9_frees 74 = .ok (.iconst 1, 1) := by decide +kernel
theorem dX9_frees_75 : decode cX9_frees 75 = .ok (.if_icmp .ne 37, 3) := by decide +kernel
theorem dX9_frees_78 : decode cX9_frees 78 = .ok (.aload_n 0, 1) := by decide +kernel
theorem dX9_frees_79 : decode cX9_frees 79 = .ok (.iload_n 3, 1) := by decide +kernel
theorem dX9_frees_80 : decode cX9_frees 80 = .ok (.iload 4, 2) := by decide +kernel
theorem dX9_frees_82 : decode cX9_frees 82 = .ok (.invokevirtual 220, 3) := by decide +kernel
theorem dX9_frees_85 : decode cX9_frees 85 = .ok (.istore 5, 2) := by decide +kernel
theorem dX9_frees_87 : decode cX9_frees 87 = .ok (.iload 5, 2) := by decide +kernel
theorem dX9_frees_89 : decode cX9_frees 89 = .ok (.iload_n 1, 1) := by decide +kernel
theorem dX9_frees_90 : decode cX9_frees 90 = .ok (.if_icmp .le 13, 3) := by decide +kernel
theorem dX9_frees_93 : decode cX9_frees 93 = .ok (.bipush 10, 2) := by decide +kernel
theorem dX9_frees_95 : decode cX9_frees 95 = .ok (.iload_n 3, 1) := by decide +kernel
theorem dX9_frees_96 : decode cX9_frees 96 = .ok (.imul, 1) := by decide +kernel
theorem dX9_frees_97 : decode cX9_frees 97 = .ok (.iload 4, 2) := by decide +kernel
theorem dX9_frees_99 : decode cX9_frees 99 = .ok (.iadd, 1) := by decide +kernel
theorem dX9_frees_100 : decode cX9_frees 100 = .ok (.goto 4, 3) := by decide +kernel
theorem dX9_frees_103 : decode cX9_frees 103 = .ok (.iload_n 2, 1) := by decide +kernel
theorem dX9_frees_104 : decode cX9_frees 104 = .ok (.istore_n 2, 1) := by decide +kernel
theorem dX9_frees_105 : decode cX9_frees 105 = .ok (.iload_n 1, 1) := by decide +kernel
theorem dX9_frees_106 : decode cX9_frees 106 = .ok (.iload 5, 2) := by decide +kernel
theorem dX9_frees_108 : decode cX9_frees 108 = .ok (.invokestatic 223, 3) := by decide +kernel
theorem dX9_frees_111 : decode cX9_frees 111 = .ok (.istore_n 1, 1) := by decide +kernel
theorem dX9_frees_112 : decode cX9_frees 112 = .ok (.iinc 4 1, 3) := by decide +kernel
theorem dX9_frees_115 : decode cX9_frees 115 = .ok (.goto (-63), 3) := by decide +kernel
theorem dX9_frees_118 : decode cX9_frees 118 = .ok (.iinc 3 1, 3) := by decide +kernel
theorem dX9_frees_121 : decode cX9_frees 121 = .ok (.goto (-85), 3) := by decide +kernel
theorem dX9_frees_124 : decode cX9_frees 124 = .ok (.iload_n 2, 1) := by decide +kernel
theorem dX9_frees_125 : decode cX9_frees 125 = .ok (.ireturn, 1) := by decide +kernel
theorem dX9_game_0 : decode cX9_game 0 = .ok (.iload_n 1, 1) := by decide +kernel
theorem dX9_game_1 : decode cX9_game 1 = .ok (.ifCond .lt 8, 3) := by decide +kernel
theorem dX9_game_4 : decode cX9_game 4 = .ok (.iload_n 1, 1) := by decide +kernel
theorem dX9_game_5 : decode cX9_game 5 = .ok (.iconst 1, 1) := by decide +kernel
theorem dX9_game_6 : decode cX9_game 6 = .ok (.if_icmp .le 5, 3) := by decide +kernel
theorem dX9_game_9 : decode cX9_game 9 = .ok (.iconst (-1), 1) := by decide +kernel
theorem dX9_game_10 : decode cX9_game 10 = .ok (.ireturn, 1) := by decide +kernel
theorem dX9_game_11 : decode cX9_game 11 = .ok (.aload_n 0, 1) := by decide +kernel
theorem dX9_game_12 : decode cX9_game 12 = .ok (.getfield 10, 3) := by decide +kernel
theorem dX9_game_15 : decode cX9_game 15 = .ok (.getfield 228, 3) := by decide +kernel
theorem dX9_game_18 : decode cX9_game 18 = .ok (.iconst 2, 1) := by decide +kernel
theorem dX9_game_19 : decode cX9_game 19 = .ok (.if_icmp .ge 6, 3) := by decide +kernel
theorem dX9_game_22 : decode cX9_game 22 = .ok (.bipush (-3), 2) := by decide +kernel
theorem dX9_game_24 : decode cX9_game 24 = .ok (.ireturn, 1) := by decide +kernel
theorem dX9_game_25 : decode cX9_game 25 = .ok (.aload_n 0, 1) := by decide +kernel
theorem dX9_game_26 : decode cX9_game 26 = .ok (.getfield 63, 3) := by decide +kernel
theorem dX9_game_29 : decode cX9_game 29 = .ok (.aload_n 0, 1) := by decide +kernel
theorem dX9_game_30 : decode cX9_game 30 = .ok (.getfield 10, 3) := by decide +kernel
theorem dX9_game_33 : decode cX9_game 33 = .ok (.invokevirtual 231, 3) := by decide +kernel
theorem dX9_game_36 : decode cX9_game 36 = .ok (.istore_n 2, 1) := by decide +kernel
theorem dX9_game_37 : decode cX9_game 37 = .ok (.iload_n 1, 1) := by decide +kernel
theorem dX9_game_38 : decode cX9_game 38 = .ok (.ifCond .ne 15, 3) := by decide +kernel
theorem dX9_game_41 : decode cX9_game 41 = .ok (.iload_n 2, 1) := by decide +kernel
theorem dX9_game_42 : decode cX9_game 42 = .ok (.bipush (-4), 2) := by decide +kernel
theorem dX9_game_44 : decode cX9_game 44 = .ok (.if_icmp .ne 7, 3) := by decide +kernel
theorem dX9_game_47 : decode cX9_game 47 = .ok (.iconst 0, 1) := by decide +kernel
theorem dX9_game_48 : decode cX9_game 48 = .ok (.goto 4, 3) := by decide +kernel
theorem dX9_game_51 : decode cX9_game 51 = .ok (.iconst 1, 1) := by decide +kernel
theorem dX9_game_52 : decode cX9_game 52 = .ok (.ireturn, 1) := by decide +kernel
theorem dX9_game_53 : decode cX9_game 53 = .ok (.iload_n 2, 1) := by decide +kernel
theorem dX9_game_54 : decode cX9_game 54 = .ok (.ireturn, 1) := by decide +kernel
theorem dX9_value_0 : decode cX9_value 0 = .ok (.aload_n 0, 1) := by decide +kernel
theorem dX9_value_1 : decode cX9_value 1 = .ok (.getfield 10, 3) := by decide +kernel
theorem dX9_value_4 : decode cX9_value 4 = .ok (.getfield 228, 3) := by decide +kernel
theorem dX9_value_7 : decode cX9_value 7 = .ok (.iconst 2, 1) := by decide +kernel
theorem dX9_value_8 : decode cX9_value 8 = .ok (.if_icmp .ge 8, 3) := by decide +kernel
theorem dX9_value_11 : decode cX9_value 11 = .ok (.ldc 234, 2) := by decide +kernel
theorem dX9_value_13 : decode cX9_value 13 = .ok (.goto 14, 3) := by decide +kernel
theorem dX9_value_16 : decode cX9_value 16 = .ok (.aload_n 0, 1) := by decide +kernel
theorem dX9_value_17 : decode cX9_value 17 = .ok (.getfield 63, 3) := by decide +kernel
theorem dX9_value_20 : decode cX9_value 20 = .ok (.aload_n 0, 1) := by decide +kernel
theorem dX9_value_21 : decode cX9_value 21 = .ok (.getfield 10, 3) := by decide +kernel
theorem dX9_value_24 : decode cX9_value 24 = .ok (.invokevirtual 235, 3) := by decide +kernel
theorem dX9_value_27 : decode cX9_value 27 = .ok (.ireturn, 1) := by decide +kernel
theorem dX9_deeds_0 : decode cX9_deeds 0 = .ok (.aload_n 0, 1) := by decide +kernel
theorem dX9_deeds_1 : decode cX9_deeds 1 = .ok (.iload_n 1, 1) := by decide +kernel
theorem dX9_deeds_2 : decode cX9_deeds 2 = .ok (.invokevirtual 75, 3) := by decide +kernel
theorem dX9_deeds_5 : decode cX9_deeds 5 = .ok (.astore_n 3, 1) := by decide +kernel
theorem dX9_deeds_6 : decode cX9_deeds 6 = .ok (.aload_n 3, 1) := by decide +kernel
theorem dX9_deeds_7 : decode cX9_deeds 7 = .ok (.ifnull 12, 3) := by decide +kernel
theorem dX9_deeds_10 : decode cX9_deeds 10 = .ok (.iload_n 2, 1) := by decide +kernel
theorem dX9_deeds_11 : decode cX9_deeds 11 = .ok (.ifCond .lt 8, 3) := by decide +kernel
theorem dX9_deeds_14 : decode cX9_deeds 14 = .ok (.iload_n 2, 1) := by decide +kernel
theorem dX9_deeds_15 : decode cX9_deeds 15 = .ok (.iconst 1, 1) := by decide +kernel
theorem dX9_deeds_16 : decode cX9_deeds 16 = .ok (.if_icmp .le 5, 3) := by decide +kernel
theorem dX9_deeds_19 : decode cX9_deeds 19 = .ok (.iconst (-1), 1) := by decide +kernel
theorem dX9_deeds_20 : decode cX9_deeds 20 = .ok (.ireturn, 1) := by decide +kernel
theorem dX9_deeds_21 : decode cX9_deeds 21 = .ok (.aload_n 3, 1) := by decide +kernel
theorem dX9_deeds_22 : decode cX9_deeds 22 = .ok (.invokevirtual 79, 3) := by decide +kernel
theorem dX9_deeds_25 : decode cX9_deeds 25 = .ok (.istore 4, 2) := by decide +kernel
theorem dX9_deeds_27 : decode cX9_deeds 27 = .ok (.iload 4, 2) := by decide +kernel
theorem dX9_deeds_29 : decode cX9_deeds 29 = .ok (.ifCond .eq 6, 3) := by decide +kernel
theorem dX9_deeds_32 : decode cX9_deeds 32 = .ok (.iload 4, 2) := by decide +kernel
theorem dX9_deeds_34 : decode cX9_deeds 34 = .ok (.ireturn, 1) := by decide +kernel
theorem dX9_deeds_35 : decode cX9_deeds 35 = .ok (.aload_n 0, 1) := by decide +kernel
theorem dX9_deeds_36 : decode cX9_deeds 36 = .ok (.getfield 70, 3) := by decide +kernel
theorem dX9_deeds_39 : decode cX9_deeds 39 = .ok (.aload_n 0, 1) := by decide +kernel
theorem dX9_deeds_40 : decode cX9_deeds 40 = .ok (.getfield 10, 3) := by decide +kernel
theorem dX9_deeds_43 : decode cX9_deeds 43 = .ok (.aload_n 3, 1) := by decide +kernel
theorem dX9_deeds_44 : decode cX9_deeds 44 = .ok (.invokevirtual 238, 3) := by decide +kernel
theorem dX9_deeds_47 : decode cX9_deeds 47 = .ok (.ifCond .ne 6, 3) := by decide +kernel
theorem dX9_deeds_50 : decode cX9_deeds 50 = .ok (.bipush (-13), 2) := by decide +kernel
theorem dX9_deeds_52 : decode cX9_deeds 52 = .ok (.ireturn, 1) := by decide +kernel
theorem dX9_deeds_53 : decode cX9_deeds 53 = .ok (.aload_n 0, 1) := by decide +kernel
theorem dX9_deeds_54 : decode cX9_deeds 54 = .ok (.getfield 70, 3) := by decide +kernel
theorem dX9_deeds_57 : decode cX9_deeds 57 = .ok (.invokevirtual 242, 3) := by decide +kernel
theorem dX9_deeds_60 : decode cX9_deeds 60 = .ok (.istore 5, 2) := by decide +kernel
theorem dX9_deeds_62 : decode cX9_deeds 62 = .ok (.iload_n 2, 1) := by decide +kernel
theorem dX9_deeds_63 : decode cX9_deeds 63 = .ok (.ifCond .ne 8, 3) := by decide +kernel
theorem dX9_deeds_66 : decode cX9_deeds 66 = .ok (.iload 5, 2) := by decide +kernel
theorem dX9_deeds_68 : decode cX9_deeds 68 = .ok (.goto 8, 3) := by decide +kernel
theorem dX9_deeds_71 : decode cX9_deeds 71 = .ok (.iload 5, 2) := by decide +kernel
theorem dX9_deeds_73 : decode cX9_deeds 73 = .ok (.invokestatic 245, 3) := by decide +kernel
theorem dX9_deeds_76 : decode cX9_deeds 76 = .ok (.ireturn, 1) := by decide +kernel
theorem dX9_lots_0 : decode cX9_lots 0 = .ok (.iload_n 2, 1) := by decide +kernel
theorem dX9_lots_1 : decode cX9_lots 1 = .ok (.ifCond .lt 8, 3) := by decide +kernel
theorem dX9_lots_4 : decode cX9_lots 4 = .ok (.iload_n 2, 1) := by decide +kernel
theorem dX9_lots_5 : decode cX9_lots 5 = .ok (.iconst 1, 1) := by decide +kernel
theorem dX9_lots_6 : decode cX9_lots 6 = .ok (.if_icmp .le 5, 3) := by decide +kernel
theorem dX9_lots_9 : decode cX9_lots 9 = .ok (.iconst (-1), 1) := by decide +kernel
theorem dX9_lots_10 : decode cX9_lots 10 = .ok (.ireturn, 1) := by decide +kernel
theorem dX9_lots_11 : decode cX9_lots 11 = .ok (.aload_n 0, 1) := by decide +kernel
theorem dX9_lots_12 : decode cX9_lots 12 = .ok (.getfield 16, 3) := by decide +kernel
theorem dX9_lots_15 : decode cX9_lots 15 = .ok (.aload_n 0, 1) := by decide +kernel
theorem dX9_lots_16 : decode cX9_lots 16 = .ok (.getfield 10, 3) := by decide +kernel
theorem dX9_lots_19 : decode cX9_lots 19 = .ok (.invokevirtual 87, 3) := by decide +kernel
theorem dX9_lots_22 : decode cX9_lots 22 = .ok (.iload_n 1, 1) := by decide +kernel
theorem dX9_lots_23 : decode cX9_lots 23 = .ok (.istore_n 3, 1) := by decide +kernel
theorem dX9_lots_24 : decode cX9_lots 24 = .ok (.iconst 0, 1) := by decide +kernel
theorem dX9_lots_25 : decode cX9_lots 25 = .ok (.istore 4, 2) := by decide +kernel
theorem dX9_lots_27 : decode cX9_lots 27 = .ok (.iload 4, 2) := by decide +kernel
theorem dX9_lots_29 : decode cX9_lots 29 = .ok (.aload_n 0, 1) := by decide +kernel
theorem dX9_lots_30 : decode cX9_lots 30 = .ok (.getfield 16, 3) := by decide +kernel
theorem dX9_lots_33 : decode cX9_lots 33 = .ok (.getfield 175, 3) := by decide +kernel
theorem dX9_lots_36 : decode cX9_lots 36 = .ok (.if_icmp .ge 51, 3) := by decide +kernel
theorem dX9_lots_39 : decode cX9_lots 39 = .ok (.aload_n 0, 1) := by decide +kernel
theorem dX9_lots_40 : decode cX9_lots 40 = .ok (.getfield 16, 3) := by decide +kernel
theorem dX9_lots_43 : decode cX9_lots 43 = .ok (.iload 4, 2) := by decide +kernel
theorem dX9_lots_45 : decode cX9_lots 45 = .ok (.invokevirtual 103, 3) := by decide +kernel
theorem dX9_lots_48 : decode cX9_lots 48 = .ok (.bipush 9, 2) := by decide +kernel
theorem dX9_lots_50 : decode cX9_lots 50 = .ok (.if_icmp .ne 31, 3) := by decide +kernel
theorem dX9_lots_53 : decode cX9_lots 53 = .ok (.iload_n 3, 1) := by decide +kernel
theorem dX9_lots_54 : decode cX9_lots 54 = .ok (.ldc 250, 2) := by decide +kernel
theorem dX9_lots_56 : decode cX9_lots 56 = .ok (.imul, 1) := by decide +kernel
theorem dX9_lots_57 : decode cX9_lots 57 = .ok (.sipush 12345, 3) := by decide +kernel
theorem dX9_lots_60 : decode cX9_lots 60 = .ok (.iadd, 1) := by decide +kernel
theorem dX9_lots_61 : decode cX9_lots 61 = .ok (.istore_n 3, 1) := by decide +kernel
theorem dX9_lots_62 : decode cX9_lots 62 = .ok (.aload_n 0, 1) := by decide +kernel
theorem dX9_lots_63 : decode cX9_lots 63 = .ok (.iload 4, 2) := by decide +kernel
theorem dX9_lots_65 : decode cX9_lots 65 = .ok (.iload_n 3, 1) := by decide +kernel
theorem dX9_lots_66 : decode cX9_lots 66 = .ok (.aload_n 0, 1) := by decide +kernel
theorem dX9_lots_67 : decode cX9_lots 67 = .ok (.getfield 16, 3) := by decide +kernel
theorem dX9_lots_70 : decode cX9_lots 70 = .ok (.getfield 228, 3) := by decide +kernel
theorem dX9_lots_73 : decode cX9_lots 73 = .ok (.iconst 1, 1) := by decide +kernel
theorem dX9_lots_74 : decode cX9_lots 74 = .ok (.iadd, 1) := by decide +kernel
theorem dX9_lots_75 : decode cX9_lots 75 = .ok (.invokestatic 251, 3) := by decide +kernel
theorem dX9_lots_78 : decode cX9_lots 78 = .ok (.invokevirtual 254, 3) := by decide +kernel
theorem dX9_lots_81 : decode cX9_lots 81 = .ok (.iinc 4 1, 3) := by decide +kernel
theorem dX9_lots_84 : decode cX9_lots 84 = .ok (.goto (-57), 3) := by decide +kernel
theorem dX9_lots_87 : decode cX9_lots 87 = .ok (.iconst 1, 1) := by decide +kernel
theorem dX9_lots_88 : decode cX9_lots 88 = .ok (.aload_n 0, 1) := by decide +kernel
theorem dX9_lots_89 : decode cX9_lots 89 = .ok (.getfield 16, 3) := by decide +kernel
theorem dX9_lots_92 : decode cX9_lots 92 = .ok (.getfield 175, 3) := by decide +kernel
theorem dX9_lots_95 : decode cX9_lots 95 = .ok (.ishl, 1) := by decide +kernel
theorem dX9_lots_96 : decode cX9_lots 96 = .ok (.iconst 1, 1) := by decide +kernel
theorem dX9_lots_97 : decode cX9_lots 97 = .ok (.isub, 1) := by decide +kernel
theorem dX9_lots_98 : decode cX9_lots 98 = .ok (.istore 4, 2) := by decide +kernel
theorem dX9_lots_100 : decode cX9_lots 100 = .ok (.iload_n 2, 1) := by decide +kernel
theorem dX9_lots_101 : decode cX9_lots 101 = .ok (.ifCond .ne 13, 3) := by decide +kernel
theorem dX9_lots_104 : decode cX9_lots 104 = .ok (.aload_n 0, 1) := by decide +kernel
theorem dX9_lots_105 : decode cX9_lots 105 = .ok (.getfield 16, 3) := by decide +kernel
theorem dX9_lots_108 : decode cX9_lots 108 = .ok (.invokevirtual 258, 3) := by decide +kernel
theorem dX9_lots_111 : decode cX9_lots 111 = .ok (.goto 12, 3) := by decide +kernel
theorem dX9_lots_114 : decode cX9_lots 114 = .ok (.aload_n 0, 1) := by decide +kernel
theorem dX9_lots_115 : decode cX9_lots 115 = .ok (.getfield 16, 3) := by decide +kernel
theorem dX9_lots_118 : decode cX9_lots 118 = .ok (.iload 4, 2) := by decide +kernel
theorem dX9_lots_120 : decode cX9_lots 120 = .ok (.invokevirtual 217, 3) := by decide +kernel
theorem dX9_lots_123 : decode cX9_lots 123 = .ok (.ireturn, 1) := by decide +kernel
theorem dX9_image_0 : decode cX9_image 0 = .ok (.aload_n 0, 1) := by decide +kernel
theorem dX9_image_1 : decode cX9_image 1 = .ok (.getfield 19, 3) := by decide +kernel
theorem dX9_image_4 : decode cX9_image 4 = .ok (.aload_n 0, 1) := by decide +kernel
theorem dX9_image_5 : decode cX9_image 5 = .ok (.getfield 10, 3) := by decide +kernel
theorem dX9_image_8 : decode cX9_image 8 = .ok (.invokevirtual 87, 3) := by decide +kernel
theorem dX9_image_11 : decode cX9_image 11 = .ok (.aload_n 0, 1) := by decide +kernel
theorem dX9_image_12 : decode cX9_image 12 = .ok (.iconst 1, 1) := by decide +kernel
theorem dX9_image_13 : decode cX9_image 13 = .ok (.putfield 22, 3) := by decide +kernel
theorem dX9_image_16 : decode cX9_image 16 = .ok (.aload_n 0, 1) := by decide +kernel
theorem dX9_image_17 : decode cX9_image 17 = .ok (.getfield 10, 3) := by decide +kernel
theorem dX9_image_20 : decode cX9_image 20 = .ok (.getfield 175, 3) := by decide +kernel
theorem dX9_image_23 : decode cX9_image 23 = .ok (.ireturn, 1) := by decide +kernel
theorem dX9_restore_0 : decode cX9_restore 0 = .ok (.aload_n 0, 1) := by decide +kernel
theorem dX9_restore_1 : decode cX9_restore 1 = .ok (.getfield 22, 3) := by decide +kernel
theorem dX9_restore_4 : decode cX9_restore 4 = .ok (.ifCond .ne 6, 3) := by decide +kernel
theorem dX9_restore_7 : decode cX9_restore 7 = .ok (.bipush (-3), 2) := by decide +kernel
theorem dX9_restore_9 : decode cX9_restore 9 = .ok (.ireturn, 1) := by decide +kernel
theorem dX9_restore_10 : decode cX9_restore 10 = .ok (.aload_n 0, 1) := by decide +kernel
theorem dX9_restore_11 : decode cX9_restore 11 = .ok (.getfield 10, 3) := by decide +kernel
theorem dX9_restore_14 : decode cX9_restore 14 = .ok (.aload_n 0, 1) := by decide +kernel
theorem dX9_restore_15 : decode cX9_restore 15 = .ok (.getfield 19, 3) := by decide +kernel
theorem dX9_restore_18 : decode cX9_restore 18 = .ok (.invokevirtual 87, 3) := by decide +kernel
theorem dX9_restore_21 : decode cX9_restore 21 = .ok (.aload_n 0, 1) := by decide +kernel
theorem dX9_restore_22 : decode cX9_restore 22 = .ok (.getfield 10, 3) := by decide +kernel
theorem dX9_restore_25 : decode cX9_restore 25 = .ok (.getfield 175, 3) := by decide +kernel
theorem dX9_restore_28 : decode cX9_restore 28 = .ok (.ireturn, 1) := by decide +kernel
theorem dX9_count_0 : decode cX9_count 0 = .ok (.iload_n 1, 1) := by decide +kernel
theorem dX9_count_1 : decode cX9_count 1 = .ok (.tableswitch 123 0 7 #[47, 55, 63, 71, 79, 97, 106, 115], 47) := by decide +kernel
theorem dX9_count_48 : decode cX9_count 48 = .ok (.aload_n 0, 1) := by decide +kernel
theorem dX9_count_49 : decode cX9_count 49 = .ok (.getfield 10, 3) := by decide +kernel
theorem dX9_count_52 : decode cX9_count 52 = .ok (.getfield 175, 3) := by decide +kernel
theorem dX9_count_55 : decode cX9_count 55 = .ok (.ireturn, 1) := by decide +kernel
theorem dX9_count_56 : decode cX9_count 56 = .ok (.aload_n 0, 1) := by decide +kernel
theorem dX9_count_57 : decode cX9_count 57 = .ok (.getfield 10, 3) := by decide +kernel
theorem dX9_count_60 : decode cX9_count 60 = .ok (.getfield 228, 3) := by decide +kernel
theorem dX9_count_63 : decode cX9_count 63 = .ok (.ireturn, 1) := by decide +kernel
theorem dX9_count_64 : decode cX9_count 64 = .ok (.aload_n 0, 1) := by decide +kernel
theorem dX9_count_65 : decode cX9_count 65 = .ok (.getfield 10, 3) := by decide +kernel
theorem dX9_count_68 : decode cX9_count 68 = .ok (.invokevirtual 261, 3) := by decide +kernel
theorem dX9_count_71 : decode cX9_count 71 = .ok (.ireturn, 1) := by decide +kernel
theorem dX9_count_72 : decode cX9_count 72 = .ok (.aload_n 0, 1) := by decide +kernel
theorem dX9_count_73 : decode cX9_count 73 = .ok (.getfield 10, 3) := by decide +kernel
theorem dX9_count_76 : decode cX9_count 76 = .ok (.invokevirtual 258, 3) := by decide +kernel
theorem dX9_count_79 : decode cX9_count 79 = .ok (.ireturn, 1) := by decide +kernel
theorem dX9_count_80 : decode cX9_count 80 = .ok (.aload_n 0, 1) := by decide +kernel
theorem dX9_count_81 : decode cX9_count 81 = .ok (.getfield 10, 3) := by decide +kernel
theorem dX9_count_84 : decode cX9_count 84 = .ok (.iconst 1, 1) := by decide +kernel
theorem dX9_count_85 : decode cX9_count 85 = .ok (.invokevirtual 264, 3) := by decide +kernel
theorem dX9_count_88 : decode cX9_count 88 = .ok (.aload_n 0, 1) := by decide +kernel
theorem dX9_count_89 : decode cX9_count 89 = .ok (.getfield 10, 3) := by decide +kernel
theorem dX9_count_92 : decode cX9_count 92 = .ok (.iconst 2, 1) := by decide +kernel
theorem dX9_count_93 : decode cX9_count 93 = .ok (.invokevirtual 264, 3) := by decide +kernel
theorem dX9_count_96 : decode cX9_count 96 = .ok (.iadd, 1) := by decide +kernel
theorem dX9_count_97 : decode cX9_count 97 = .ok (.ireturn, 1) := by decide +kernel
theorem dX9_count_98 : decode cX9_count 98 = .ok (.aload_n 0, 1) := by decide +kernel
theorem dX9_count_99 : decode cX9_count 99 = .ok (.getfield 10, 3) := by decide +kernel
theorem dX9_count_102 : decode cX9_count 102 = .ok (.iconst 2, 1) := by decide +kernel
theorem dX9_count_103 : decode cX9_count 103 = .ok (.invokevirtual 264, 3) := by decide +kernel
theorem dX9_count_106 : decode cX9_count 106 = .ok (.ireturn, 1) := by decide +kernel
theorem dX9_count_107 : decode cX9_count 107 = .ok (.aload_n 0, 1) := by decide +kernel
theorem dX9_count_108 : decode cX9_count 108 = .ok (.getfield 10, 3) := by decide +kernel
theorem dX9_count_111 : decode cX9_count 111 = .ok (.iconst 3, 1) := by decide +kernel
theorem dX9_count_112 : decode cX9_count 112 = .ok (.invokevirtual 264, 3) := by decide +kernel
theorem dX9_count_115 : decode cX9_count 115 = .ok (.ireturn, 1) := by decide +kernel
theorem dX9_count_116 : decode cX9_count 116 = .ok (.aload_n 0, 1) := by decide +kernel
theorem dX9_count_117 : decode cX9_count 117 = .ok (.getfield 10, 3) := by decide +kernel
theorem dX9_count_120 : decode cX9_count 120 = .ok (.invokevirtual 267, 3) := by decide +kernel
theorem dX9_count_123 : decode cX9_count 123 = .ok (.ireturn, 1) := by decide +kernel
theorem dX9_count_124 : decode cX9_count 124 = .ok (.iconst (-1), 1) := by decide +kernel
theorem dX9_count_125 : decode cX9_count 125 = .ok (.ireturn, 1) := by decide +kernel
theorem dX9_keep_0 : decode cX9_keep 0 = .ok (.aload_n 0, 1) := by decide +kernel
theorem dX9_keep_1 : decode cX9_keep 1 = .ok (.iload_n 1, 1) := by decide +kernel
theorem dX9_keep_2 : decode cX9_keep 2 = .ok (.invokevirtual 75, 3) := by decide +kernel
theorem dX9_keep_5 : decode cX9_keep 5 = .ok (.astore 5, 2) := by decide +kernel
theorem dX9_keep_7 : decode cX9_keep 7 = .ok (.aload 5, 2) := by decide +kernel
theorem dX9_keep_9 : decode cX9_keep 9 = .ok (.ifnull 12, 3) := by decide +kernel
theorem dX9_keep_12 : decode cX9_keep 12 = .ok (.iload_n 2, 1) := by decide +kernel
theorem dX9_keep_13 : decode cX9_keep 13 = .ok (.ifCond .lt 8, 3) := by decide +kernel
theorem dX9_keep_16 : decode cX9_keep 16 = .ok (.iload_n 2, 1) := by decide +kernel
theorem dX9_keep_17 : decode cX9_keep 17 = .ok (.iconst 1, 1) := by decide +kernel
theorem dX9_keep_18 : decode cX9_keep 18 = .ok (.if_icmp .le 5, 3) := by decide +kernel
theorem dX9_keep_21 : decode cX9_keep 21 = .ok (.iconst (-1), 1) := by decide +kernel
theorem dX9_keep_22 : decode cX9_keep 22 = .ok (.ireturn, 1) := by decide +kernel
theorem dX9_keep_23 : decode cX9_keep 23 = .ok (.iload_n 2, 1) := by decide +kernel
theorem dX9_keep_24 : decode cX9_keep 24 = .ok (.ifCond .ne 11, 3) := by decide +kernel
theorem dX9_keep_27 : decode cX9_keep 27 = .ok (.aload 5, 2) := by decide +kernel
theorem dX9_keep_29 : decode cX9_keep 29 = .ok (.iconst 0, 1) := by decide +kernel
theorem dX9_keep_30 : decode cX9_keep 30 = .ok (.putfield 270, 3) := by decide +kernel
theorem dX9_keep_33 : decode cX9_keep 33 = .ok (.iconst 0, 1) := by decide +kernel
theorem dX9_keep_34 : decode cX9_keep 34 = .ok (.ireturn, 1) := by decide +kernel
theorem dX9_keep_35 : decode cX9_keep 35 = .ok (.iload_n 3, 1) := by decide +kernel
theorem dX9_keep_36 : decode cX9_keep 36 = .ok (.ifCond .lt 22, 3) := by decide +kernel
theorem dX9_keep_39 : decode cX9_keep 39 = .ok (.iload_n 3, 1) := by decide +kernel
theorem dX9_keep_40 : decode cX9_keep 40 = .ok (.bipush 7, 2) := by decide +kernel
theorem dX9_keep_42 : decode cX9_keep 42 = .ok (.if_icmp .gt 16, 3) := by decide +kernel
theorem dX9_keep_45 : decode cX9_keep 45 = .ok (.iload 4, 2) := by decide +kernel
theorem dX9_keep_47 : decode cX9_keep 47 = .ok (.ifCond .lt 11, 3) := by decide +kernel
theorem dX9_keep_50 : decode cX9_keep 50 = .ok (.iload 4, 2) := by decide +kernel
theorem dX9_keep_52 : decode cX9_keep 52 = .ok (.sipush 9999, 3) := by decide +kernel
theorem dX9_keep_55 : decode cX9_keep 55 = .ok (.if_icmp .le 5, 3) := by decide +kernel
theorem dX9_keep_58 : decode cX9_keep 58 = .ok (.iconst (-1), 1) := by decide +kernel
theorem dX9_keep_59 : decode cX9_keep 59 = .ok (.ireturn, 1) := by decide +kernel
theorem dX9_keep_60 : decode cX9_keep 60 = .ok (.aload 5, 2) := by decide +kernel
theorem dX9_keep_62 : decode cX9_keep 62 = .ok (.iconst 1, 1) := by decide +kernel
theorem dX9_keep_63 : decode cX9_keep 63 = .ok (.putfield 270, 3) := by decide +kernel
theorem dX9_keep_66 : decode cX9_keep 66 = .ok (.aload 5, 2) := by decide +kernel
theorem dX9_keep_68 : decode cX9_keep 68 = .ok (.getfield 164, 3) := by decide +kernel
theorem dX9_keep_71 : decode cX9_keep 71 = .ok (.iload_n 3, 1) := by decide +kernel
theorem dX9_keep_72 : decode cX9_keep 72 = .ok (.iload 4, 2) := by decide +kernel
theorem dX9_keep_74 : decode cX9_keep 74 = .ok (.invokevirtual 273, 3) := by decide +kernel
theorem dX9_keep_77 : decode cX9_keep 77 = .ok (.iconst 0, 1) := by decide +kernel
theorem dX9_keep_78 : decode cX9_keep 78 = .ok (.ireturn, 1) := by decide +kernel
theorem dX9_row_0 : decode cX9_row 0 = .ok (.aload_n 0, 1) := by decide +kernel
theorem dX9_row_1 : decode cX9_row 1 = .ok (.iload_n 1, 1) := by decide +kernel
theorem dX9_row_2 : decode cX9_row 2 = .ok (.invokevirtual 75, 3) := by decide +kernel
theorem dX9_row_5 : decode cX9_row 5 = .ok (.astore 4, 2) := by decide +kernel
theorem dX9_row_7 : decode cX9_row 7 = .ok (.aload 4, 2) := by decide +kernel
theorem dX9_row_9 : decode cX9_row 9 = .ok (.ifnull 18, 3) := by decide +kernel
theorem dX9_row_12 : decode cX9_row 12 = .ok (.iload_n 2, 1) := by decide +kernel
theorem dX9_row_13 : decode cX9_row 13 = .ok (.ifCond .lt 14, 3) := by decide +kernel
theorem dX9_row_16 : decode cX9_row 16 = .ok (.iload_n 2, 1) := by decide +kernel
theorem dX9_row_17 : decode cX9_row 17 = .ok (.iconst 2, 1) := by decide +kernel
theorem dX9_row_18 : decode cX9_row 18 = .ok (.if_icmp .gt 9, 3) := by decide +kernel
theorem dX9_row_21 : decode cX9_row 21 = .ok (.iload_n 3, 1) := by decide +kernel
theorem dX9_row_22 : decode cX9_row 22 = .ok (.bipush 100, 2) := by decide +kernel
theorem dX9_row_24 : decode cX9_row 24 = .ok (.if_icmp .le 5, 3) := by decide +kernel
theorem dX9_row_27 : decode cX9_row 27 = .ok (.iconst (-1), 1) := by decide +kernel
theorem dX9_row_28 : decode cX9_row 28 = .ok (.ireturn, 1) := by decide +kernel
theorem dX9_row_29 : decode cX9_row 29 = .ok (.iload_n 3, 1) := by decide +kernel
theorem dX9_row_30 : decode cX9_row 30 = .ok (.ifCond .ge 6, 3) := by decide +kernel
theorem dX9_row_33 : decode cX9_row 33 = .ok (.bipush (-14), 2) := by decide +kernel
theorem dX9_row_35 : decode cX9_row 35 = .ok (.ireturn, 1) := by decide +kernel
theorem dX9_row_36 : decode cX9_row 36 = .ok (.aload 4, 2) := by decide +kernel
theorem dX9_row_38 : decode cX9_row 38 = .ok (.iload_n 2, 1) := by decide +kernel
theorem dX9_row_39 : decode cX9_row 39 = .ok (.iload_n 3, 1) := by decide +kernel
theorem dX9_row_40 : decode cX9_row 40 = .ok (.invokevirtual 278, 3) := by decide +kernel
theorem dX9_row_43 : decode cX9_row 43 = .ok (.iconst 0, 1) := by decide +kernel
theorem dX9_row_44 : decode cX9_row 44 = .ok (.ireturn, 1) := by decide +kernel
theorem dX9_put_0 : decode cX9_put 0 = .ok (.aload_n 0, 1) := by decide +kernel
theorem dX9_put_1 : decode cX9_put 1 = .ok (.iload_n 1, 1) := by decide +kernel
theorem dX9_put_2 : decode cX9_put 2 = .ok (.invokevirtual 75, 3) := by decide +kernel
theorem dX9_put_5 : decode cX9_put 5 = .ok (.astore 4, 2) := by decide +kernel
theorem dX9_put_7 : decode cX9_put 7 = .ok (.aload 4, 2) := by decide +kernel
theorem dX9_put_9 : decode cX9_put 9 = .ok (.ifnonnull 5, 3) := by decide +kernel
theorem dX9_put_12 : decode cX9_put 12 = .ok (.iconst (-1), 1) := by decide +kernel
theorem dX9_put_13 : decode cX9_put 13 = .ok (.ireturn, 1) := by decide +kernel
theorem dX9_put_14 : decode cX9_put 14 = .ok (.aload 4, 2) := by decide +kernel
theorem dX9_put_16 : decode cX9_put 16 = .ok (.iconst 2, 1) := by decide +kernel
theorem dX9_put_17 : decode cX9_put 17 = .ok (.invokevirtual 281, 3) := by decide +kernel
theorem dX9_put_20 : decode cX9_put 20 = .ok (.istore 5, 2) := by decide +kernel
theorem dX9_put_22 : decode cX9_put 22 = .ok (.iload 5, 2) := by decide +kernel
theorem dX9_put_24 : decode cX9_put 24 = .ok (.ifCond .eq 6, 3) := by decide +kernel
theorem dX9_put_27 : decode cX9_put 27 = .ok (.iload 5, 2) := by decide +kernel
theorem dX9_put_29 : decode cX9_put 29 = .ok (.ireturn, 1) := by decide +kernel
theorem dX9_put_30 : decode cX9_put 30 = .ok (.aload 4, 2) := by decide +kernel
theorem dX9_put_32 : decode cX9_put 32 = .ok (.iload_n 2, 1) := by decide +kernel
theorem dX9_put_33 : decode cX9_put 33 = .ok (.iload_n 3, 1) := by decide +kernel
theorem dX9_put_34 : decode cX9_put 34 = .ok (.invokevirtual 284, 3) := by decide +kernel
theorem dX9_put_37 : decode cX9_put 37 = .ok (.ifCond .eq 7, 3) := by decide +kernel
theorem dX9_put_40 : decode cX9_put 40 = .ok (.iconst 0, 1) := by decide +kernel
theorem dX9_put_41 : decode cX9_put 41 = .ok (.goto 5, 3) := by decide +kernel
theorem dX9_put_44 : decode cX9_put 44 = .ok (.bipush (-13), 2) := by decide +kernel
theorem dX9_put_46 : decode cX9_put 46 = .ok (.ireturn, 1) := by decide +kernel
theorem dX9_element_0 : decode cX9_element 0 = .ok (.aload_n 0, 1) := by decide +kernel
theorem dX9_element_1 : decode cX9_element 1 = .ok (.iload_n 1, 1) := by decide +kernel
theorem dX9_element_2 : decode cX9_element 2 = .ok (.invokevirtual 75, 3) := by decide +kernel
theorem dX9_element_5 : decode cX9_element 5 = .ok (.astore_n 3, 1) := by decide +kernel
theorem dX9_element_6 : decode cX9_element 6 = .ok (.aload_n 3, 1) := by decide +kernel
theorem dX9_element_7 : decode cX9_element 7 = .ok (.ifnonnull 14, 3) := by decide +kernel
theorem dX9_element_10 : decode cX9_element 10 = .ok (.new 287, 3) := by decide +kernel
theorem dX9_element_13 : decode cX9_element 13 = .ok (.dup, 1) := by decide +kernel
theorem dX9_element_14 : decode cX9_element 14 = .ok (.ldc_w 289, 3) := by decide +kernel
theorem dX9_element_17 : decode cX9_element 17 = .ok (.invokespecial 291, 3) := by decide +kernel
theorem dX9_element_20 : decode cX9_element 20 = .ok (.athrow, 1) := by decide +kernel
theorem dX9_element_21 : decode cX9_element 21 = .ok (.aload_n 3, 1) := by decide +kernel
theorem dX9_element_22 : decode cX9_element 22 = .ok (.getfield 270, 3) := by decide +kernel
theorem dX9_element_25 : decode cX9_element 25 = .ok (.iconst 2, 1) := by decide +kernel
theorem dX9_element_26 : decode cX9_element 26 = .ok (.if_icmp .eq 14, 3) := by decide +kernel
theorem dX9_element_29 : decode cX9_element 29 = .ok (.new 294, 3) := by decide +kernel
theorem dX9_element_32 : decode cX9_element 32 = .ok (.dup, 1) := by decide +kernel
theorem dX9_element_33 : decode cX9_element 33 = .ok (.ldc_w 296, 3) := by decide +kernel
theorem dX9_element_36 : decode cX9_element 36 = .ok (.invokespecial 298, 3) := by decide +kernel
theorem dX9_element_39 : decode cX9_element 39 = .ok (.athrow, 1) := by decide +kernel
theorem dX9_element_40 : decode cX9_element 40 = .ok (.aload_n 3, 1) := by decide +kernel
theorem dX9_element_41 : decode cX9_element 41 = .ok (.iload_n 2, 1) := by decide +kernel
theorem dX9_element_42 : decode cX9_element 42 = .ok (.invokevirtual 299, 3) := by decide +kernel
theorem dX9_element_45 : decode cX9_element 45 = .ok (.ifCond .ne 14, 3) := by decide +kernel
theorem dX9_element_48 : decode cX9_element 48 = .ok (.new 294, 3) := by decide +kernel
theorem dX9_element_51 : decode cX9_element 51 = .ok (.dup, 1) := by decide +kernel
theorem dX9_element_52 : decode cX9_element 52 = .ok (.ldc_w 302, 3) := by decide +kernel
theorem dX9_element_55 : decode cX9_element 55 = .ok (.invokespecial 298, 3) := by decide +kernel
theorem dX9_element_58 : decode cX9_element 58 = .ok (.athrow, 1) := by decide +kernel
theorem dX9_element_59 : decode cX9_element 59 = .ok (.aload_n 3, 1) := by decide +kernel
theorem dX9_element_60 : decode cX9_element 60 = .ok (.iload_n 2, 1) := by decide +kernel
theorem dX9_element_61 : decode cX9_element 61 = .ok (.invokevirtual 182, 3) := by decide +kernel
theorem dX9_element_64 : decode cX9_element 64 = .ok (.i2l, 1) := by decide +kernel
theorem dX9_element_65 : decode cX9_element 65 = .ok (.lreturn, 1) := by decide +kernel
theorem dX9_copy_0 : decode cX9_copy 0 = .ok (.aload_n 0, 1) := by decide +kernel
theorem dX9_copy_1 : decode cX9_copy 1 = .ok (.iload_n 1, 1) := by decide +kernel
theorem dX9_copy_2 : decode cX9_copy 2 = .ok (.invokevirtual 75, 3) := by decide +kernel
theorem dX9_copy_5 : decode cX9_copy 5 = .ok (.astore 6, 2) := by decide +kernel
theorem dX9_copy_7 : decode cX9_copy 7 = .ok (.aload_n 0, 1) := by decide +kernel
theorem dX9_copy_8 : decode cX9_copy 8 = .ok (.iload_n 3, 1) := by decide +kernel
theorem dX9_copy_9 : decode cX9_copy 9 = .ok (.invokevirtual 75, 3) := by decide +kernel
theorem dX9_copy_12 : decode cX9_copy 12 = .ok (.astore 7, 2) := by decide +kernel
theorem dX9_copy_14 : decode cX9_copy 14 = .ok (.aload 6, 2) := by decide +kernel
theorem dX9_copy_16 : decode cX9_copy 16 = .ok (.ifnull 8, 3) := by decide +kernel
theorem dX9_copy_19 : decode cX9_copy 19 = .ok (.aload 7, 2) := by decide +kernel
theorem dX9_copy_21 : decode cX9_copy 21 = .ok (.ifnonnull 5, 3) := by decide +kernel
theorem dX9_copy_24 : decode cX9_copy 24 = .ok (.iconst (-1), 1) := by decide +kernel
theorem dX9_copy_25 : decode cX9_copy 25 = .ok (.ireturn, 1) := by decide +kernel
theorem dX9_copy_26 : decode cX9_copy 26 = .ok (.aload 6, 2) := by decide +kernel
theorem dX9_copy_28 : decode cX9_copy 28 = .ok (.getfield 270, 3) := by decide +kernel
theorem dX9_copy_31 : decode cX9_copy 31 = .ok (.ifCond .eq 11, 3) := by decide +kernel
theorem dX9_copy_34 : decode cX9_copy 34 = .ok (.aload 7, 2) := by decide +kernel
theorem dX9_copy_36 : decode cX9_copy 36 = .ok (.getfield 270, 3) := by decide +kernel
theorem dX9_copy_39 : decode cX9_copy 39 = .ok (.ifCond .ne 6, 3) := by decide +kernel
theorem dX9_copy_42 : decode cX9_copy 42 = .ok (.bipush (-11), 2) := by decide +kernel
theorem dX9_copy_44 : decode cX9_copy 44 = .ok (.ireturn, 1) := by decide +kernel
theorem dX9_copy_45 : decode cX9_copy 45 = .ok (.aload 6, 2) := by decide +kernel
theorem dX9_copy_47 : decode cX9_copy 47 = .ok (.getfield 270, 3) := by decide +kernel
theorem dX9_copy_50 : decode cX9_copy 50 = .ok (.iconst 2, 1) := by decide +kernel
theorem dX9_copy_51 : decode cX9_copy 51 = .ok (.if_icmp .ne 25, 3) := by decide +kernel
theorem dX9_copy_54 : decode cX9_copy 54 = .ok (.aload 7, 2) := by decide +kernel
theorem dX9_copy_56 : decode cX9_copy 56 = .ok (.getfield 270, 3) := by decide +kernel
theorem dX9_copy_59 : decode cX9_copy 59 = .ok (.iconst 2, 1) := by decide +kernel
theorem dX9_copy_60 : decode cX9_copy 60 = .ok (.if_icmp .ne 16, 3) := by decide +kernel
theorem dX9_copy_63 : decode cX9_copy 63 = .ok (.aload 6, 2) := by decide +kernel
theorem dX9_copy_65 : decode cX9_copy 65 = .ok (.getfield 304, 3) := by decide +kernel
theorem dX9_copy_68 : decode cX9_copy 68 = .ok (.aload 7, 2) := by decide +kernel
theorem dX9_copy_70 : decode cX9_copy 70 = .ok (.getfield 304, 3) := by decide +kernel
theorem dX9_copy_73 : decode cX9_copy 73 = .ok (.if_icmp .eq 6, 3) := by decide +kernel
theorem dX9_copy_76 : decode cX9_copy 76 = .ok (.bipush (-12), 2) := by decide +kernel
theorem dX9_copy_78 : decode cX9_copy 78 = .ok (.ireturn, 1) := by decide +kernel
theorem dX9_copy_79 : decode cX9_copy 79 = .ok (.aload 6, 2) := by decide +kernel
theorem dX9_copy_81 : decode cX9_copy 81 = .ok (.iload_n 2, 1) := by decide +kernel
theorem dX9_copy_82 : decode cX9_copy 82 = .ok (.iload 5, 2) := by decide +kernel
theorem dX9_copy_84 : decode cX9_copy 84 = .ok (.invokevirtual 307, 3) := by decide +kernel
theorem dX9_copy_87 : decode cX9_copy 87 = .ok (.ifCond .eq 15, 3) := by decide +kernel
theorem dX9_copy_90 : decode cX9_copy 90 = .ok (.aload 7, 2) := by decide +kernel
theorem dX9_copy_92 : decode cX9_copy 92 = .ok (.iload 4, 2) := by decide +kernel
theorem dX9_copy_94 : decode cX9_copy 94 = .ok (.iload 5, 2) := by decide +kernel
theorem dX9_copy_96 : decode cX9_copy 96 = .ok (.invokevirtual 307, 3) := by decide +kernel
theorem dX9_copy_99 : decode cX9_copy 99 = .ok (.ifCond .ne 6, 3) := by decide +kernel
theorem dX9_copy_102 : decode cX9_copy 102 = .ok (.bipush (-13), 2) := by decide +kernel
theorem dX9_copy_104 : decode cX9_copy 104 = .ok (.ireturn, 1) := by decide +kernel
theorem dX9_copy_105 : decode cX9_copy 105 = .ok (.aload 6, 2) := by decide +kernel
theorem dX9_copy_107 : decode cX9_copy 107 = .ok (.getfield 310, 3) := by decide +kernel
theorem dX9_copy_110 : decode cX9_copy 110 = .ok (.iload_n 2, 1) := by decide +kernel
theorem dX9_copy_111 : decode cX9_copy 111 = .ok (.aload 7, 2) := by decide +kernel
theorem dX9_copy_113 : decode cX9_copy 113 = .ok (.getfield 310, 3) := by decide +kernel
theorem dX9_copy_116 : decode cX9_copy 116 = .ok (.iload 4, 2) := by decide +kernel
theorem dX9_copy_118 : decode cX9_copy 118 = .ok (.iload 5, 2) := by decide +kernel
theorem dX9_copy_120 : decode cX9_copy 120 = .ok (.invokestatic 314, 3) := by decide +kernel
theorem dX9_copy_123 : decode cX9_copy 123 = .ok (.iload 5, 2) := by decide +kernel
theorem dX9_copy_125 : decode cX9_copy 125 = .ok (.ireturn, 1) := by decide +kernel
theorem dX9_fee_0 : decode cX9_fee 0 = .ok (.aload_n 0, 1) := by decide +kernel
theorem dX9_fee_1 : decode cX9_fee 1 = .ok (.iload_n 1, 1) := by decide +kernel
theorem dX9_fee_2 : decode cX9_fee 2 = .ok (.invokevirtual 75, 3) := by decide +kernel
theorem dX9_fee_5 : decode cX9_fee 5 = .ok (.astore_n 2, 1) := by decide +kernel
theorem dX9_fee_6 : decode cX9_fee 6 = .ok (.aload_n 2, 1) := by decide +kernel
theorem dX9_fee_7 : decode cX9_fee 7 = .ok (.ifnonnull 5, 3) := by decide +kernel
theorem dX9_fee_10 : decode cX9_fee 10 = .ok (.iconst (-1), 1) := by decide +kernel
theorem dX9_fee_11 : decode cX9_fee 11 = .ok (.ireturn, 1) := by decide +kernel
theorem dX9_fee_12 : decode cX9_fee 12 = .ok (.aload_n 2, 1) := by decide +kernel
theorem dX9_fee_13 : decode cX9_fee 13 = .ok (.iconst 1, 1) := by decide +kernel
theorem dX9_fee_14 : decode cX9_fee 14 = .ok (.invokevirtual 281, 3) := by decide +kernel
theorem dX9_fee_17 : decode cX9_fee 17 = .ok (.istore_n 3, 1) := by decide +kernel
theorem dX9_fee_18 : decode cX9_fee 18 = .ok (.iload_n 3, 1) := by decide +kernel
theorem dX9_fee_19 : decode cX9_fee 19 = .ok (.ifCond .eq 7, 3) := by decide +kernel
theorem dX9_fee_22 : decode cX9_fee 22 = .ok (.iload_n 3, 1) := by decide +kernel
theorem dX9_fee_23 : decode cX9_fee 23 = .ok (.goto 10, 3) := by decide +kernel
theorem dX9_fee_26 : decode cX9_fee 26 = .ok (.aload_n 2, 1) := by decide +kernel
theorem dX9_fee_27 : decode cX9_fee 27 = .ok (.getfield 164, 3) := by decide +kernel
theorem dX9_fee_30 : decode cX9_fee 30 = .ok (.invokevirtual 320, 3) := by decide +kernel
theorem dX9_fee_33 : decode cX9_fee 33 = .ok (.ireturn, 1) := by decide +kernel
theorem dX9_toss_0 : decode cX9_toss 0 = .ok (.aload_n 0, 1) := by decide +kernel
theorem dX9_toss_1 : decode cX9_toss 1 = .ok (.iload_n 1, 1) := by decide +kernel
theorem dX9_toss_2 : decode cX9_toss 2 = .ok (.invokevirtual 75, 3) := by decide +kernel
theorem dX9_toss_5 : decode cX9_toss 5 = .ok (.astore_n 2, 1) := by decide +kernel
theorem dX9_toss_6 : decode cX9_toss 6 = .ok (.aload_n 2, 1) := by decide +kernel
theorem dX9_toss_7 : decode cX9_toss 7 = .ok (.ifnonnull 5, 3) := by decide +kernel
theorem dX9_toss_10 : decode cX9_toss 10 = .ok (.iconst (-1), 1) := by decide +kernel
theorem dX9_toss_11 : decode cX9_toss 11 = .ok (.ireturn, 1) := by decide +kernel
theorem dX9_toss_12 : decode cX9_toss 12 = .ok (.aload_n 2, 1) := by decide +kernel
theorem dX9_toss_13 : decode cX9_toss 13 = .ok (.iconst 1, 1) := by decide +kernel
theorem dX9_toss_14 : decode cX9_toss 14 = .ok (.invokevirtual 281, 3) := by decide +kernel
theorem dX9_toss_17 : decode cX9_toss 17 = .ok (.istore_n 3, 1) := by decide +kernel
theorem dX9_toss_18 : decode cX9_toss 18 = .ok (.iload_n 3, 1) := by decide +kernel
theorem dX9_toss_19 : decode cX9_toss 19 = .ok (.ifCond .eq 7, 3) := by decide +kernel
theorem dX9_toss_22 : decode cX9_toss 22 = .ok (.iload_n 3, 1) := by decide +kernel
theorem dX9_toss_23 : decode cX9_toss 23 = .ok (.goto 10, 3) := by decide +kernel
theorem dX9_toss_26 : decode cX9_toss 26 = .ok (.aload_n 2, 1) := by decide +kernel
theorem dX9_toss_27 : decode cX9_toss 27 = .ok (.getfield 164, 3) := by decide +kernel
theorem dX9_toss_30 : decode cX9_toss 30 = .ok (.invokestatic 323, 3) := by decide +kernel
theorem dX9_toss_33 : decode cX9_toss 33 = .ok (.ireturn, 1) := by decide +kernel
theorem dX9_shelfAt_0 : decode cX9_shelfAt 0 = .ok (.iload_n 1, 1) := by decide +kernel
theorem dX9_shelfAt_1 : decode cX9_shelfAt 1 = .ok (.ifCond .lt 21, 3) := by decide +kernel
theorem dX9_shelfAt_4 : decode cX9_shelfAt 4 = .ok (.iload_n 1, 1) := by decide +kernel
theorem dX9_shelfAt_5 : decode cX9_shelfAt 5 = .ok (.aload_n 0, 1) := by decide +kernel
theorem dX9_shelfAt_6 : decode cX9_shelfAt 6 = .ok (.getfield 28, 3) := by decide +kernel
theorem dX9_shelfAt_9 : decode cX9_shelfAt 9 = .ok (.arraylength, 1) := by decide +kernel
theorem dX9_shelfAt_10 : decode cX9_shelfAt 10 = .ok (.if_icmp .ge 12, 3) := by decide +kernel
theorem dX9_shelfAt_13 : decode cX9_shelfAt 13 = .ok (.aload_n 0, 1) := by decide +kernel
theorem dX9_shelfAt_14 : decode cX9_shelfAt 14 = .ok (.getfield 28, 3) := by decide +kernel
theorem dX9_shelfAt_17 : decode cX9_shelfAt 17 = .ok (.iload_n 1, 1) := by decide +kernel
theorem dX9_shelfAt_18 : decode cX9_shelfAt 18 = .ok (.aaload, 1) := by decide +kernel
theorem dX9_shelfAt_19 : decode cX9_shelfAt 19 = .ok (.goto 4, 3) := by decide +kernel
theorem dX9_shelfAt_22 : decode cX9_shelfAt 22 = .ok (.aconst_null, 1) := by decide +kernel
theorem dX9_shelfAt_23 : decode cX9_shelfAt 23 = .ok (.areturn, 1) := by decide +kernel
theorem dX9_orNone_0 : decode cX9_orNone 0 = .ok (.iload_n 0, 1) := by decide +kernel
theorem dX9_orNone_1 : decode cX9_orNone 1 = .ok (.bipush 9, 2) := by decide +kernel
theorem dX9_orNone_3 : decode cX9_orNone 3 = .ok (.if_icmp .ne 8, 3) := by decide +kernel
theorem dX9_orNone_6 : decode cX9_orNone 6 = .ok (.bipush (-4), 2) := by decide +kernel
theorem dX9_orNone_8 : decode cX9_orNone 8 = .ok (.goto 4, 3) := by decide +kernel
theorem dX9_orNone_11 : decode cX9_orNone 11 = .ok (.iload_n 0, 1) := by decide +kernel
theorem dX9_orNone_12 : decode cX9_orNone 12 = .ok (.ireturn, 1) := by decide +kernel
theorem dX9_moveRefusal_0 : decode cX9_moveRefusal 0 = .ok (.aload_n 1, 1) := by decide +kernel
theorem dX9_moveRefusal_1 : decode cX9_moveRefusal 1 = .ok (.iconst 1, 1) := by decide +kernel
theorem dX9_moveRefusal_2 : decode cX9_moveRefusal 2 = .ok (.invokevirtual 281, 3) := by decide +kernel
theorem dX9_moveRefusal_5 : decode cX9_moveRefusal 5 = .ok (.istore_n 2, 1) := by decide +kernel
theorem dX9_moveRefusal_6 : decode cX9_moveRefusal 6 = .ok (.iload_n 2, 1) := by decide +kernel
theorem dX9_moveRefusal_7 : decode cX9_moveRefusal 7 = .ok (.ifCond .ne 20, 3) := by decide +kernel
theorem dX9_moveRefusal_10 : decode cX9_moveRefusal 10 = .ok (.aload_n 1, 1) := by decide +kernel
theorem dX9_moveRefusal_11 : decode cX9_moveRefusal 11 = .ok (.getfield 164, 3) := by decide +kernel
theorem dX9_moveRefusal_14 : decode cX9_moveRefusal 14 = .ok (.aload_n 0, 1) := by decide +kernel
theorem dX9_moveRefusal_15 : decode cX9_moveRefusal 15 = .ok (.getfield 10, 3) := by decide +kernel
theorem dX9_moveRefusal_18 : decode cX9_moveRefusal 18 = .ok (.invokevirtual 327, 3) := by decide +kernel
theorem dX9_moveRefusal_21 : decode cX9_moveRefusal 21 = .ok (.ifCond .ne 6, 3) := by decide +kernel
theorem dX9_moveRefusal_24 : decode cX9_moveRefusal 24 = .ok (.bipush (-13), 2) := by decide +kernel
theorem dX9_moveRefusal_26 : decode cX9_moveRefusal 26 = .ok (.ireturn, 1) := by decide +kernel
theorem dX9_moveRefusal_27 : decode cX9_moveRefusal 27 = .ok (.iload_n 2, 1) := by decide +kernel
theorem dX9_moveRefusal_28 : decode cX9_moveRefusal 28 = .ok (.ireturn, 1) := by decide +kernel
theorem dX9_mayBeDone_0 : decode cX9_mayBeDone 0 = .ok (.aload_n 0, 1) := by decide +kernel
theorem dX9_mayBeDone_1 : decode cX9_mayBeDone 1 = .ok (.getfield 16, 3) := by decide +kernel
theorem dX9_mayBeDone_4 : decode cX9_mayBeDone 4 = .ok (.aload_n 0, 1) := by decide +kernel
theorem dX9_mayBeDone_5 : decode cX9_mayBeDone 5 = .ok (.getfield 10, 3) := by decide +kernel
theorem dX9_mayBeDone_8 : decode cX9_mayBeDone 8 = .ok (.invokevirtual 87, 3) := by decide +kernel
theorem dX9_mayBeDone_11 : decode cX9_mayBeDone 11 = .ok (.aload_n 1, 1) := by decide +kernel
theorem dX9_mayBeDone_12 : decode cX9_mayBeDone 12 = .ok (.aload_n 0, 1) := by decide +kernel
theorem dX9_mayBeDone_13 : decode cX9_mayBeDone 13 = .ok (.getfield 16, 3) := by decide +kernel
theorem dX9_mayBeDone_16 : decode cX9_mayBeDone 16 = .ok (.invokevirtual 331, 3) := by decide +kernel
theorem dX9_mayBeDone_19 : decode cX9_mayBeDone 19 = .ok (.ifCond .ne 5, 3) := by decide +kernel
theorem dX9_mayBeDone_22 : decode cX9_mayBeDone 22 = .ok (.iconst 0, 1) := by decide +kernel
theorem dX9_mayBeDone_23 : decode cX9_mayBeDone 23 = .ok (.ireturn, 1) := by decide +kernel
theorem dX9_mayBeDone_24 : decode cX9_mayBeDone 24 = .ok (.aload_n 1, 1) := by decide +kernel
theorem dX9_mayBeDone_25 : decode cX9_mayBeDone 25 = .ok (.aload_n 0, 1) := by decide +kernel
theorem dX9_mayBeDone_26 : decode cX9_mayBeDone 26 = .ok (.getfield 16, 3) := by decide +kernel
theorem dX9_mayBeDone_29 : decode cX9_mayBeDone 29 = .ok (.invokevirtual 334, 3) := by decide +kernel
theorem dX9_mayBeDone_32 : decode cX9_mayBeDone 32 = .ok (.aload_n 0, 1) := by decide +kernel
theorem dX9_mayBeDone_33 : decode cX9_mayBeDone 33 = .ok (.getfield 16, 3) := by decide +kernel
theorem dX9_mayBeDone_36 : decode cX9_mayBeDone 36 = .ok (.invokevirtual 154, 3) := by decide +kernel
theorem dX9_mayBeDone_39 : decode cX9_mayBeDone 39 = .ok (.ifCond .eq 17, 3) := by decide +kernel
theorem dX9_mayBeDone_42 : decode cX9_mayBeDone 42 = .ok (.aload_n 0, 1) := by decide +kernel
theorem dX9_mayBeDone_43 : decode cX9_mayBeDone 43 = .ok (.getfield 16, 3) := by decide +kernel
theorem dX9_mayBeDone_46 : decode cX9_mayBeDone 46 = .ok (.invokevirtual 337, 3) := by decide +kernel
theorem dX9_mayBeDone_49 : decode cX9_mayBeDone 49 = .ok (.ifCond .eq 7, 3) := by decide +kernel
theorem dX9_mayBeDone_52 : decode cX9_mayBeDone 52 = .ok (.iconst 1, 1) := by decide +kernel
theorem dX9_mayBeDone_53 : decode cX9_mayBeDone 53 = .ok (.goto 4, 3) := by decide +kernel
theorem dX9_mayBeDone_56 : decode cX9_mayBeDone 56 = .ok (.iconst 0, 1) := by decide +kernel
theorem dX9_mayBeDone_57 : decode cX9_mayBeDone 57 = .ok (.ireturn, 1) := by decide +kernel
theorem dX9_isWanted_0 : decode cX9_isWanted 0 = .ok (.aload_n 1, 1) := by decide +kernel
theorem dX9_isWanted_1 : decode cX9_isWanted 1 = .ok (.aload_n 0, 1) := by decide +kernel
theorem dX9_isWanted_2 : decode cX9_isWanted 2 = .ok (.getfield 10, 3) := by decide +kernel
theorem dX9_isWanted_5 : decode cX9_isWanted 5 = .ok (.invokevirtual 331, 3) := by decide +kernel
theorem dX9_isWanted_8 : decode cX9_isWanted 8 = .ok (.ifCond .ne 5, 3) := by decide +kernel
theorem dX9_isWanted_11 : decode cX9_isWanted 11 = .ok (.iconst 0, 1) := by decide +kernel
theorem dX9_isWanted_12 : decode cX9_isWanted 12 = .ok (.ireturn, 1) := by decide +kernel
theorem dX9_isWanted_13 : decode cX9_isWanted 13 = .ok (.aload_n 1, 1) := by decide +kernel
theorem dX9_isWanted_14 : decode cX9_isWanted 14 = .ok (.getfield 340, 3) := by decide +kernel
theorem dX9_isWanted_17 : decode cX9_isWanted 17 = .ok (.bipush 6, 2) := by decide +kernel
theorem dX9_isWanted_19 : decode cX9_isWanted 19 = .ok (.if_icmp .eq 12, 3) := by decide +kernel
theorem dX9_isWanted_22 : decode cX9_isWanted 22 = .ok (.aload_n 1, 1) := by decide +kernel
theorem dX9_isWanted_23 : decode cX9_isWanted 23 = .ok (.getfield 340, 3) := by decide +kernel
theorem dX9_isWanted_26 : decode cX9_isWanted 26 = .ok (.bipush 7, 2) := by decide +kernel
theorem dX9_isWanted_28 : decode cX9_isWanted 28 = .ok (.if_icmp .ne 5, 3) := by decide +kernel
theorem dX9_isWanted_31 : decode cX9_isWanted 31 = .ok (.iconst 1, 1) := by decide +kernel
theorem dX9_isWanted_32 : decode cX9_isWanted 32 = .ok (.ireturn, 1) := by decide +kernel
theorem dX9_isWanted_33 : decode cX9_isWanted 33 = .ok (.aload_n 0, 1) := by decide +kernel
theorem dX9_isWanted_34 : decode cX9_isWanted 34 = .ok (.getfield 16, 3) := by decide +kernel
theorem dX9_isWanted_37 : decode cX9_isWanted 37 = .ok (.aload_n 0, 1) := by decide +kernel
theorem dX9_isWanted_38 : decode cX9_isWanted 38 = .ok (.getfield 10, 3) := by decide +kernel
theorem dX9_isWanted_41 : decode cX9_isWanted 41 = .ok (.invokevirtual 87, 3) := by decide +kernel
theorem dX9_isWanted_44 : decode cX9_isWanted 44 = .ok (.aload_n 1, 1) := by decide +kernel
theorem dX9_isWanted_45 : decode cX9_isWanted 45 = .ok (.aload_n 0, 1) := by decide +kernel
theorem dX9_isWanted_46 : decode cX9_isWanted 46 = .ok (.getfield 16, 3) := by decide +kernel
theorem dX9_isWanted_49 : decode cX9_isWanted 49 = .ok (.invokevirtual 334, 3) := by decide +kernel
theorem dX9_isWanted_52 : decode cX9_isWanted 52 = .ok (.iconst 0, 1) := by decide +kernel
theorem dX9_isWanted_53 : decode cX9_isWanted 53 = .ok (.istore_n 2, 1) := by decide +kernel
theorem dX9_isWanted_54 : decode cX9_isWanted 54 = .ok (.iload_n 2, 1) := by decide +kernel
theorem dX9_isWanted_55 : decode cX9_isWanted 55 = .ok (.aload_n 0, 1) := by decide +kernel
theorem dX9_isWanted_56 : decode cX9_isWanted 56 = .ok (.getfield 10, 3) := by decide +kernel
theorem dX9_isWanted_59 : decode cX9_isWanted 59 = .ok (.getfield 228, 3) := by decide +kernel
theorem dX9_isWanted_62 : decode cX9_isWanted 62 = .ok (.if_icmp .ge 30, 3) := by decide +kernel
theorem dX9_isWanted_65 : decode cX9_isWanted 65 = .ok (.aload_n 0, 1) := by decide +kernel
theorem dX9_isWanted_66 : decode cX9_isWanted 66 = .ok (.getfield 16, 3) := by decide +kernel
theorem dX9_isWanted_69 : decode cX9_isWanted 69 = .ok (.iload_n 2, 1) := by decide +kernel
theorem dX9_isWanted_70 : decode cX9_isWanted 70 = .ok (.invokevirtual 132, 3) := by decide +kernel
theorem dX9_isWanted_73 : decode cX9_isWanted 73 = .ok (.aload_n 0, 1) := by decide +kernel
theorem dX9_isWanted_74 : decode cX9_isWanted 74 = .ok (.getfield 10, 3) := by decide +kernel
theorem dX9_isWanted_77 : decode cX9_isWanted 77 = .ok (.iload_n 2, 1) := by decide +kernel
theorem dX9_isWanted_78 : decode cX9_isWanted 78 = .ok (.invokevirtual 132, 3) := by decide +kernel
theorem dX9_isWanted_81 : decode cX9_isWanted 81 = .ok (.if_icmp .ge 5, 3) := by decide +kernel
theorem dX9_isWanted_84 : decode cX9_isWanted 84 = .ok (.iconst 0, 1) := by decide +kernel
theorem dX9_isWanted_85 : decode cX9_isWanted 85 = .ok (.ireturn, 1) := by decide +kernel
theorem dX9_isWanted_86 : decode cX9_isWanted 86 = .ok (.iinc 2 1, 3) := by decide +kernel
theorem dX9_isWanted_89 : decode cX9_isWanted 89 = .ok (.goto (-35), 3) := by decide +kernel
theorem dX9_isWanted_92 : decode cX9_isWanted 92 = .ok (.iconst 1, 1) := by decide +kernel
theorem dX9_isWanted_93 : decode cX9_isWanted 93 = .ok (.ireturn, 1) := by decide +kernel
theorem dX9_mostBits_0 : decode cX9_mostBits 0 = .ok (.iconst 0, 1) := by decide +kernel
theorem dX9_mostBits_1 : decode cX9_mostBits 1 = .ok (.istore_n 2, 1) := by decide +kernel
theorem dX9_mostBits_2 : decode cX9_mostBits 2 = .ok (.iconst 0, 1) := by decide +kernel
theorem dX9_mostBits_3 : decode cX9_mostBits 3 = .ok (.istore_n 3, 1) := by decide +kernel
theorem dX9_mostBits_4 : decode cX9_mostBits 4 = .ok (.iload_n 3, 1) := by decide +kernel
theorem dX9_mostBits_5 : decode cX9_mostBits 5 = .ok (.aload_n 0, 1) := by decide +kernel
theorem dX9_mostBits_6 : decode cX9_mostBits 6 = .ok (.getfield 10, 3) := by decide +kernel
theorem dX9_mostBits_9 : decode cX9_mostBits 9 = .ok (.getfield 175, 3) := by decide +kernel
theorem dX9_mostBits_12 : decode cX9_mostBits 12 = .ok (.if_icmp .ge 42, 3) := by decide +kernel
theorem dX9_mostBits_15 : decode cX9_mostBits 15 = .ok (.aload_n 0, 1) := by decide +kernel
theorem dX9_mostBits_16 : decode cX9_mostBits 16 = .ok (.getfield 10, 3) := by decide +kernel
theorem dX9_mostBits_19 : decode cX9_mostBits 19 = .ok (.iload_n 3, 1) := by decide +kernel
theorem dX9_mostBits_20 : decode cX9_mostBits 20 = .ok (.invokevirtual 103, 3) := by decide +kernel
theorem dX9_mostBits_23 : decode cX9_mostBits 23 = .ok (.istore 4, 2) := by decide +kernel
theorem dX9_mostBits_25 : decode cX9_mostBits 25 = .ok (.iload_n 2, 1) := by decide +kernel
theorem dX9_mostBits_26 : decode cX9_mostBits 26 = .ok (.iload 4, 2) := by decide +kernel
theorem dX9_mostBits_28 : decode cX9_mostBits 28 = .ok (.bipush 9, 2) := by decide +kernel
theorem dX9_mostBits_30 : decode cX9_mostBits 30 = .ok (.if_icmp .eq 9, 3) := by decide +kernel
theorem dX9_mostBits_33 : decode cX9_mostBits 33 = .ok (.iload 4, 2) := by decide +kernel
theorem dX9_mostBits_35 : decode cX9_mostBits 35 = .ok (.iload_n 1, 1) := by decide +kernel
theorem dX9_mostBits_36 : decode cX9_mostBits 36 = .ok (.if_icmp .ne 7, 3) := by decide +kernel
theorem dX9_mostBits_39 : decode cX9_mostBits 39 = .ok (.iconst 0, 1) := by decide +kernel
theorem dX9_mostBits_40 : decode cX9_mostBits 40 = .ok (.goto 6, 3) := by decide +kernel
theorem dX9_mostBits_43 : decode cX9_mostBits 43 = .ok (.iconst 1, 1) := by decide +kernel
theorem dX9_mostBits_44 : decode cX9_mostBits 44 = .ok (.iload_n 3, 1) := by decide +kernel
theorem dX9_mostBits_45 : decode cX9_mostBits 45 = .ok (.ishl, 1) := by decide +kernel
theorem dX9_mostBits_46 : decode cX9_mostBits 46 = .ok (.ior, 1) := by decide +kernel
theorem dX9_mostBits_47 : decode cX9_mostBits 47 = .ok (.istore_n 2, 1) := by decide +kernel
theorem dX9_mostBits_48 : decode cX9_mostBits 48 = .ok (.iinc 3 1, 3) := by decide +kernel
theorem dX9_mostBits_51 : decode cX9_mostBits 51 = .ok (.goto (-47), 3) := by decide +kernel
theorem dX9_mostBits_54 : decode cX9_mostBits 54 = .ok (.iconst 0, 1) := by decide +kernel
theorem dX9_mostBits_55 : decode cX9_mostBits 55 = .ok (.istore_n 3, 1) := by decide +kernel
theorem dX9_mostBits_56 : decode cX9_mostBits 56 = .ok (.iconst 0, 1) := by decide +kernel
theorem dX9_mostBits_57 : decode cX9_mostBits 57 = .ok (.istore 4, 2) := by decide +kernel
theorem dX9_mostBits_59 : decode cX9_mostBits 59 = .ok (.iconst 0, 1) := by decide +kernel
theorem dX9_mostBits_60 : decode cX9_mostBits 60 = .ok (.istore 5, 2) := by decide +kernel
theorem dX9_mostBits_62 : decode cX9_mostBits 62 = .ok (.iload 5, 2) := by decide +kernel
theorem dX9_mostBits_64 : decode cX9_mostBits 64 = .ok (.iconst 1, 1) := by decide +kernel
theorem dX9_mostBits_65 : decode cX9_mostBits 65 = .ok (.aload_n 0, 1) := by decide +kernel
theorem dX9_mostBits_66 : decode cX9_mostBits 66 = .ok (.getfield 10, 3) := by decide +kernel
theorem dX9_mostBits_69 : decode cX9_mostBits 69 = .ok (.getfield 175, 3) := by decide +kernel
theorem dX9_mostBits_72 : decode cX9_mostBits 72 = .ok (.ishl, 1) := by decide +kernel
theorem dX9_mostBits_73 : decode cX9_mostBits 73 = .ok (.if_icmp .ge 54, 3) := by decide +kernel
theorem dX9_mostBits_76 : decode cX9_mostBits 76 = .ok (.aload_n 0, 1) := by decide +kernel
theorem dX9_mostBits_77 : decode cX9_mostBits 77 = .ok (.getfield 10, 3) := by decide +kernel
theorem dX9_mostBits_80 : decode cX9_mostBits 80 = .ok (.iload_n 1, 1) := by decide +kernel
theorem dX9_mostBits_81 : decode cX9_mostBits 81 = .ok (.iload 5, 2) := by decide +kernel
theorem dX9_mostBits_83 : decode cX9_mostBits 83 = .ok (.invokevirtual 195, 3) := by decide +kernel
theorem dX9_mostBits_86 : decode cX9_mostBits 86 = .ok (.istore 6, 2) := by decide +kernel
theorem dX9_mostBits_88 : decode cX9_mostBits 88 = .ok (.iload 6, 2) := by decide +kernel
theorem dX9_mostBits_90 : decode cX9_mostBits 90 = .ok (.iload 4, 2) := by decide +kernel
theorem dX9_mostBits_92 : decode cX9_mostBits 92 = .ok (.if_icmp .le 29, 3) := by decide +kernel
theorem dX9_mostBits_95 : decode cX9_mostBits 95 = .ok (.iload 5, 2) := by decide +kernel
theorem dX9_mostBits_97 : decode cX9_mostBits 97 = .ok (.iload_n 2, 1) := by decide +kernel
theorem dX9_mostBits_98 : decode cX9_mostBits 98 = .ok (.iand, 1) := by decide +kernel
theorem dX9_mostBits_99 : decode cX9_mostBits 99 = .ok (.ifCond .ne 22, 3) := by decide +kernel
theorem dX9_mostBits_102 : decode cX9_mostBits 102 = .ok (.aload_n 0, 1) := by decide +kernel
theorem dX9_mostBits_103 : decode cX9_mostBits 103 = .ok (.getfield 10, 3) := by decide +kernel
theorem dX9_mostBits_106 : decode cX9_mostBits 106 = .ok (.iload 5, 2) := by decide +kernel
theorem dX9_mostBits_108 : decode cX9_mostBits 108 = .ok (.invokevirtual 343, 3) := by decide +kernel
theorem dX9_mostBits_111 : decode cX9_mostBits 111 = .ok (.ifCond .ne 10, 3) := by decide +kernel
theorem dX9_mostBits_114 : decode cX9_mostBits 114 = .ok (.iload 6, 2) := by decide +kernel
theorem dX9_mostBits_116 : decode cX9_mostBits 116 = .ok (.istore 4, 2) := by decide +kernel
theorem dX9_mostBits_118 : decode cX9_mostBits 118 = .ok (.iload 5, 2) := by decide +kernel
theorem dX9_mostBits_120 : decode cX9_mostBits 120 = .ok (.istore_n 3, 1) := by decide +kernel
theorem dX9_mostBits_121 : decode cX9_mostBits 121 = .ok (.iinc 5 1, 3) := by decide +kernel
theorem dX9_mostBits_124 : decode cX9_mostBits 124 = .ok (.goto (-62), 3) := by decide +kernel
theorem dX9_mostBits_127 : decode cX9_mostBits 127 = .ok (.iload_n 3, 1) := by decide +kernel
theorem dX9_mostBits_128 : decode cX9_mostBits 128 = .ok (.ireturn, 1) := by decide +kernel
theorem dX9_worthWithLane_0 : decode cX9_worthWithLane 0 = .ok (.aload_n 0, 1) := by decide +kernel
theorem dX9_worthWithLane_1 : decode cX9_worthWithLane 1 = .ok (.getfield 16, 3) := by decide +kernel
theorem dX9_worthWithLane_4 : decode cX9_worthWithLane 4 = .ok (.iload_n 1, 1) := by decide +kernel
theorem dX9_worthWithLane_5 : decode cX9_worthWithLane 5 = .ok (.iload_n 2, 1) := by decide +kernel
theorem dX9_worthWithLane_6 : decode cX9_worthWithLane 6 = .ok (.iconst 2, 1) := by decide +kernel
theorem dX9_worthWithLane_7 : decode cX9_worthWithLane 7 = .ok (.invokevirtual 212, 3) := by decide +kernel
theorem dX9_worthWithLane_10 : decode cX9_worthWithLane 10 = .ok (.aload_n 0, 1) := by decide +kernel
theorem dX9_worthWithLane_11 : decode cX9_worthWithLane 11 = .ok (.getfield 42, 3) := by decide +kernel
theorem dX9_worthWithLane_14 : decode cX9_worthWithLane 14 = .ok (.aload_n 0, 1) := by decide +kernel
theorem dX9_worthWithLane_15 : decode cX9_worthWithLane 15 = .ok (.getfield 16, 3) := by decide +kernel
theorem dX9_worthWithLane_18 : decode cX9_worthWithLane 18 = .ok (.iconst 0, 1) := by decide +kernel
theorem dX9_worthWithLane_19 : decode cX9_worthWithLane 19 = .ok (.invokevirtual 198, 3) := by decide +kernel
theorem dX9_worthWithLane_22 : decode cX9_worthWithLane 22 = .ok (.aload_n 0, 1) := by decide +kernel
theorem dX9_worthWithLane_23 : decode cX9_worthWithLane 23 = .ok (.getfield 16, 3) := by decide +kernel
theorem dX9_worthWithLane_26 : decode cX9_worthWithLane 26 = .ok (.iload_n 1, 1) := by decide +kernel
theorem dX9_worthWithLane_27 : decode cX9_worthWithLane 27 = .ok (.iload_n 2, 1) := by decide +kernel
theorem dX9_worthWithLane_28 : decode cX9_worthWithLane 28 = .ok (.iconst 1, 1) := by decide +kernel
theorem dX9_worthWithLane_29 : decode cX9_worthWithLane 29 = .ok (.invokevirtual 212, 3) := by decide +kernel
theorem dX9_worthWithLane_32 : decode cX9_worthWithLane 32 = .ok (.aload_n 0, 1) := by decide +kernel
theorem dX9_worthWithLane_33 : decode cX9_worthWithLane 33 = .ok (.getfield 42, 3) := by decide +kernel
theorem dX9_worthWithLane_36 : decode cX9_worthWithLane 36 = .ok (.getfield 202, 3) := by decide +kernel
theorem dX9_worthWithLane_39 : decode cX9_worthWithLane 39 = .ok (.ireturn, 1) := by decide +kernel
theorem dX9_drawBelow_0 : decode cX9_drawBelow 0 = .ok (.iload_n 1, 1) := by decide +kernel
theorem dX9_drawBelow_1 : decode cX9_drawBelow 1 = .ok (.ifCond .le 16, 3) := by decide +kernel
theorem dX9_drawBelow_4 : decode cX9_drawBelow 4 = .ok (.iload_n 0, 1) := by decide +kernel
theorem dX9_drawBelow_5 : decode cX9_drawBelow 5 = .ok (.ldc 216, 2) := by decide +kernel
theorem dX9_drawBelow_7 : decode cX9_drawBelow 7 = .ok (.iand, 1) := by decide +kernel
theorem dX9_drawBelow_8 : decode cX9_drawBelow 8 = .ok (.ldc_w 346, 3) := by decide +kernel
theorem dX9_drawBelow_11 : decode cX9_drawBelow 11 = .ok (.idiv, 1) := by decide +kernel
theorem dX9_drawBelow_12 : decode cX9_drawBelow 12 = .ok (.iload_n 1, 1) := by decide +kernel
theorem dX9_drawBelow_13 : decode cX9_drawBelow 13 = .ok (.irem, 1) := by decide +kernel
theorem dX9_drawBelow_14 : decode cX9_drawBelow 14 = .ok (.goto 4, 3) := by decide +kernel
theorem dX9_drawBelow_17 : decode cX9_drawBelow 17 = .ok (.iconst 0, 1) := by decide +kernel
theorem dX9_drawBelow_18 : decode cX9_drawBelow 18 = .ok (.ireturn, 1) := by decide +kernel
theorem dX9_drawInMind_0 : decode cX9_drawInMind 0 = .ok (.iload_n 2, 1) := by decide +kernel
theorem dX9_drawInMind_1 : decode cX9_drawInMind 1 = .ok (.aload_n 0, 1) := by decide +kernel
theorem dX9_drawInMind_2 : decode cX9_drawInMind 2 = .ok (.getfield 16, 3) := by decide +kernel
theorem dX9_drawInMind_5 : decode cX9_drawInMind 5 = .ok (.getfield 228, 3) := by decide +kernel
theorem dX9_drawInMind_8 : decode cX9_drawInMind 8 = .ok (.if_icmp .lt 4, 3) := by decide +kernel
theorem dX9_drawInMind_11 : decode cX9_drawInMind 11 = .ok (.return_, 1) := by decide +kernel
theorem dX9_drawInMind_12 : decode cX9_drawInMind 12 = .ok (.aload_n 0, 1) := by decide +kernel
theorem dX9_drawInMind_13 : decode cX9_drawInMind 13 = .ok (.getfield 16, 3) := by decide +kernel
theorem dX9_drawInMind_16 : decode cX9_drawInMind 16 = .ok (.iload_n 2, 1) := by decide +kernel
theorem dX9_drawInMind_17 : decode cX9_drawInMind 17 = .ok (.iload_n 1, 1) := by decide +kernel
theorem dX9_drawInMind_18 : decode cX9_drawInMind 18 = .ok (.invokevirtual 151, 3) := by decide +kernel
theorem dX9_drawInMind_21 : decode cX9_drawInMind 21 = .ok (.pop, 1) := by decide +kernel
theorem dX9_drawInMind_22 : decode cX9_drawInMind 22 = .ok (.aload_n 0, 1) := by decide +kernel
theorem dX9_drawInMind_23 : decode cX9_drawInMind 23 = .ok (.getfield 16, 3) := by decide +kernel
theorem dX9_drawInMind_26 : decode cX9_drawInMind 26 = .ok (.invokevirtual 154, 3) := by decide +kernel
theorem dX9_drawInMind_29 : decode cX9_drawInMind 29 = .ok (.ifCond .ne 14, 3) := by decide +kernel
theorem dX9_drawInMind_32 : decode cX9_drawInMind 32 = .ok (.aload_n 0, 1) := by decide +kernel
theorem dX9_drawInMind_33 : decode cX9_drawInMind 33 = .ok (.getfield 16, 3) := by decide +kernel
theorem dX9_drawInMind_36 : decode cX9_drawInMind 36 = .ok (.bipush 9, 2) := by decide +kernel
theorem dX9_drawInMind_38 : decode cX9_drawInMind 38 = .ok (.iload_n 1, 1) := by decide +kernel
theorem dX9_drawInMind_39 : decode cX9_drawInMind 39 = .ok (.invokevirtual 151, 3) := by decide +kernel
theorem dX9_drawInMind_42 : decode cX9_drawInMind 42 = .ok (.pop, 1) := by decide +kernel
theorem dX9_drawInMind_43 : decode cX9_drawInMind 43 = .ok (.return_, 1) := by decide +kernel
theorem dX9_caughtFailure_0 : decode cX9_caughtFailure 0 = .ok (.aload_n 0, 1) := by decide +kernel
theorem dX9_caughtFailure_1 : decode cX9_caughtFailure 1 = .ok (.invokevirtual 347, 3) := by decide +kernel
theorem dX9_caughtFailure_4 : decode cX9_caughtFailure 4 = .ok (.goto 9, 3) := by decide +kernel
theorem dX9_caughtFailure_7 : decode cX9_caughtFailure 7 = .ok (.astore_n 1, 1) := by decide +kernel
theorem dX9_caughtFailure_8 : decode cX9_caughtFailure 8 = .ok (.aload_n 0, 1) := by decide +kernel
theorem dX9_caughtFailure_9 : decode cX9_caughtFailure 9 = .ok (.invokevirtual 350, 3) := by decide +kernel
theorem dX9_caughtFailure_12 : decode cX9_caughtFailure 12 = .ok (.ireturn, 1) := by decide +kernel
theorem dX9_caughtFailure_13 : decode cX9_caughtFailure 13 = .ok (.bipush (-15), 2) := by decide +kernel
theorem dX9_caughtFailure_15 : decode cX9_caughtFailure 15 = .ok (.ireturn, 1) := by decide +kernel
theorem dX10_init_0 : decode cX10_init 0 = .ok (.aload_n 0, 1) := by decide +kernel
theorem dX10_init_1 : decode cX10_init 1 = .ok (.invokespecial 1, 3) := by decide +kernel
theorem dX10_init_4 : decode cX10_init 4 = .ok (.aload_n 0, 1) := by decide +kernel
theorem dX10_init_5 : decode cX10_init 5 = .ok (.bipush 6, 2) := by decide +kernel
theorem dX10_init_7 : decode cX10_init 7 = .ok (.newarray .int, 2) := by decide +kernel
theorem dX10_init_9 : decode cX10_init 9 = .ok (.putfield 7, 3) := by decide +kernel
theorem dX10_init_12 : decode cX10_init 12 = .ok (.aload_n 0, 1) := by decide +kernel
theorem dX10_init_13 : decode cX10_init 13 = .ok (.bipush 36, 2) := by decide +kernel
theorem dX10_init_15 : decode cX10_init 15 = .ok (.newarray .int, 2) := by decide +kernel
theorem dX10_init_17 : decode cX10_init 17 = .ok (.putfield 13, 3) := by decide +kernel
theorem dX10_init_20 : decode cX10_init 20 = .ok (.aload_n 0, 1) := by decide +kernel
theorem dX10_init_21 : decode cX10_init 21 = .ok (.iconst 3, 1) := by decide +kernel
theorem dX10_init_22 : decode cX10_init 22 = .ok (.newarray .int, 2) := by decide +kernel
theorem dX10_init_24 : decode cX10_init 24 = .ok (.putfield 16, 3) := by decide +kernel
theorem dX10_init_27 : decode cX10_init 27 = .ok (.aload_n 0, 1) := by decide +kernel
theorem dX10_init_28 : decode cX10_init 28 = .ok (.iconst 3, 1) := by decide +kernel
theorem dX10_init_29 : decode cX10_init 29 = .ok (.newarray .int, 2) := by decide +kernel
theorem dX10_init_31 : decode cX10_init 31 = .ok (.putfield 19, 3) := by decide +kernel
theorem dX10_init_34 : decode cX10_init 34 = .ok (.aload_n 0, 1) := by decide +kernel
theorem dX10_init_35 : decode cX10_init 35 = .ok (.bipush 18, 2) := by decide +kernel
theorem dX10_init_37 : decode cX10_init 37 = .ok (.newarray .int, 2) := by decide +kernel
theorem dX10_init_39 : decode cX10_init 39 = .ok (.putfield 22, 3) := by decide +kernel
theorem dX10_init_42 : decode cX10_init 42 = .ok (.aload_n 0, 1) := by decide +kernel
theorem dX10_init_43 : decode cX10_init 43 = .ok (.bipush 6, 2) := by decide +kernel
theorem dX10_init_45 : decode cX10_init 45 = .ok (.newarray .int, 2) := by decide +kernel
theorem dX10_init_47 : decode cX10_init 47 = .ok (.putfield 25, 3) := by decide +kernel
theorem dX10_init_50 : decode cX10_init 50 = .ok (.aload_n 0, 1) := by decide +kernel
theorem dX10_init_51 : decode cX10_init 51 = .ok (.bipush 6, 2) := by decide +kernel
theorem dX10_init_53 : decode cX10_init 53 = .ok (.newarray .int, 2) := by decide +kernel
theorem dX10_init_55 : decode cX10_init 55 = .ok (.putfield 28, 3) := by decide +kernel
theorem dX10_init_58 : decode cX10_init 58 = .ok (.aload_n 0, 1) := by decide +kernel
theorem dX10_init_59 : decode cX10_init 59 = .ok (.bipush 51, 2) := by decide +kernel
theorem dX10_init_61 : decode cX10_init 61 = .ok (.newarray .int, 2) := by decide +kernel
theorem dX10_init_63 : decode cX10_init 63 = .ok (.putfield 31, 3) := by decide +kernel
theorem dX10_init_66 : decode cX10_init 66 = .ok (.aload_n 0, 1) := by decide +kernel
theorem dX10_init_67 : decode cX10_init 67 = .ok (.bipush 51, 2) := by decide +kernel
theorem dX10_init_69 : decode cX10_init 69 = .ok (.newarray .int, 2) := by decide +kernel
theorem dX10_init_71 : decode cX10_init 71 = .ok (.putfield 34, 3) := by decide +kernel
theorem dX10_init_74 : decode cX10_init 74 = .ok (.aload_n 0, 1) := by decide +kernel
theorem dX10_init_75 : decode cX10_init 75 = .ok (.bipush 51, 2) := by decide +kernel
theorem dX10_init_77 : decode cX10_init 77 = .ok (.newarray .int, 2) := by decide +kernel
theorem dX10_init_79 : decode cX10_init 79 = .ok (.putfield 37, 3) := by decide +kernel
theorem dX10_init_82 : decode cX10_init 82 = .ok (.aload_n 0, 1) := by decide +kernel
theorem dX10_init_83 : decode cX10_init 83 = .ok (.bipush 51, 2) := by decide +kernel
theorem dX10_init_85 : decode cX10_init 85 = .ok (.newarray .int, 2) := by decide +kernel
theorem dX10_init_87 : decode cX10_init 87 = .ok (.putfield 40, 3) := by decide +kernel
theorem dX10_init_90 : decode cX10_init 90 = .ok (.aload_n 0, 1) := by decide +kernel
theorem dX10_init_91 : decode cX10_init 91 = .ok (.bipush 51, 2) := by decide +kernel
theorem dX10_init_93 : decode cX10_init 93 = .ok (.newarray .int, 2) := by decide +kernel
theorem dX10_init_95 : decode cX10_init 95 = .ok (.putfield 43, 3) := by decide +kernel
theorem dX10_init_98 : decode cX10_init 98 = .ok (.aload_n 0, 1) := by decide +kernel
theorem dX10_init_99 : decode cX10_init 99 = .ok (.iconst 3, 1) := by decide +kernel
theorem dX10_init_100 : decode cX10_init 100 = .ok (.newarray .int, 2) := by decide +kernel
theorem dX10_init_102 : decode cX10_init 102 = .ok (.putfield 46, 3) := by decide +kernel
theorem dX10_init_105 : decode cX10_init 105 = .ok (.aload_n 0, 1) := by decide +kernel
theorem dX10_init_106 : decode cX10_init 106 = .ok (.bipush 6, 2) := by decide +kernel
theorem dX10_init_108 : decode cX10_init 108 = .ok (.newarray .int, 2) := by decide +kernel
theorem dX10_init_110 : decode cX10_init 110 = .ok (.putfield 49, 3) := by decide +kernel
theorem dX10_init_113 : decode cX10_init 113 = .ok (.aload_n 0, 1) := by decide +kernel
theorem dX10_init_114 : decode cX10_init 114 = .ok (.sipush 4096, 3) := by decide +kernel
theorem dX10_init_117 : decode cX10_init 117 = .ok (.newarray .int, 2) := by decide +kernel
theorem dX10_init_119 : decode cX10_init 119 = .ok (.putfield 52, 3) := by decide +kernel
theorem dX10_init_122 : decode cX10_init 122 = .ok (.aload_n 0, 1) := by decide +kernel
theorem dX10_init_123 : decode cX10_init 123 = .ok (.sipush 4096, 3) := by decide +kernel
theorem dX10_init_126 : decode cX10_init 126 = .ok (.newarray .int, 2) := by decide +kernel
theorem dX10_init_128 : decode cX10_init 128 = .ok (.putfield 55, 3) := by decide +kernel
theorem dX10_init_131 : decode cX10_init 131 = .ok (.aload_n 0, 1) := by decide +kernel
theorem dX10_init_132 : decode cX10_init 132 = .ok (.sipush 1458, 3) := by decide +kernel
theorem dX10_init_135 : decode cX10_init 135 = .ok (.newarray .boolean, 2) := by decide +kernel
theorem dX10_init_137 : decode cX10_init 137 = .ok (.putfield 58, 3) := by decide +kernel
theorem dX10_init_140 : decode cX10_init 140 = .ok (.aload_n 0, 1) := by decide +kernel
theorem dX10_init_141 : decode cX10_init 141 = .ok (.sipush 1458, 3) := by decide +kernel
theorem dX10_init_144 : decode cX10_init 144 = .ok (.newarray .int, 2) := by decide +kernel
theorem dX10_init_146 : decode cX10_init 146 = .ok (.putfield 62, 3) := by decide +kernel
theorem dX10_init_149 : decode cX10_init 149 = .ok (.aload_n 0, 1) := by decide +kernel
theorem dX10_init_150 : decode cX10_init 150 = .ok (.bipush 6, 2) := by decide +kernel
theorem dX10_init_152 : decode cX10_init 152 = .ok (.newarray .int, 2) := by decide +kernel
theorem dX10_init_154 : decode cX10_init 154 = .ok (.putfield 65, 3) := by decide +kernel
theorem dX10_init_157 : decode cX10_init 157 = .ok (.aload_n 0, 1) := by decide +kernel
theorem dX10_init_158 : decode cX10_init 158 = .ok (.sipush 1458, 3) := by decide +kernel
theorem dX10_init_161 : decode cX10_init 161 = .ok (.newarray .boolean, 2) := by decide +kernel
theorem dX10_init_163 : decode cX10_init 163 = .ok (.putfield 68, 3) := by decide +kernel
theorem dX10_init_166 : decode cX10_init 166 = .ok (.aload_n 0, 1) := by decide +kernel
theorem dX10_init_167 : decode cX10_init 167 = .ok (.bipush 80, 2) := by decide +kernel
theorem dX10_init_169 : decode cX10_init 169 = .ok (.newarray .int, 2) := by decide +kernel
theorem dX10_init_171 : decode cX10_init 171 = .ok (.putfield 71, 3) := by decide +kernel
theorem dX10_init_174 : decode cX10_init 174 = .ok (.aload_n 0, 1) := by decide +kernel
theorem dX10_init_175 : decode cX10_init 175 = .ok (.bipush 80, 2) := by decide +kernel
theorem dX10_init_177 : decode cX10_init 177 = .ok (.newarray .int, 2) := by decide +kernel
theorem dX10_init_179 : decode cX10_init 179 = .ok (.putfield 74, 3) := by decide +kernel
theorem dX10_init_182 : decode cX10_init 182 = .ok (.aload_n 0, 1) := by decide +kernel
theorem dX10_init_183 : decode cX10_init 183 = .ok (.bipush 8, 2) := by decide +kernel
theorem dX10_init_185 : decode cX10_init 185 = .ok (.newarray .int, 2) := by decide +kernel
theorem dX10_init_187 : decode cX10_init 187 = .ok (.putfield 77, 3) := by decide +kernel
theorem dX10_init_190 : decode cX10_init 190 = .ok (.aload_n 0, 1) := by decide +kernel
theorem dX10_init_191 : decode cX10_init 191 = .ok (.bipush 8, 2) := by decide +kernel
theorem dX10_init_193 : decode cX10_init 193 = .ok (.newarray .int, 2) := by decide +kernel
theorem dX10_init_195 : decode cX10_init 195 = .ok (.putfield 80, 3) := by decide +kernel
theorem dX10_init_198 : decode cX10_init 198 = .ok (.aload_n 0, 1) := by decide +kernel
theorem dX10_init_199 : decode cX10_init 199 = .ok (.bipush 8, 2) := by decide +kernel
theorem dX10_init_201 : decode cX10_init 201 = .ok (.newarray .int, 2) := by decide +kernel
theorem dX10_init_203 : decode cX10_init 203 = .ok (.putfield 83, 3) := by decide +kernel
theorem dX10_init_206 : decode cX10_init 206 = .ok (.aload_n 0, 1) := by decide +kernel
theorem dX10_init_207 : decode cX10_init 207 = .ok (.bipush 8, 2) := by decide +kernel
theorem dX10_init_209 : decode cX10_init 209 = .ok (.newarray .int, 2) := by decide +kernel
theorem dX10_init_211 : decode cX10_init 211 = .ok (.putfield 86, 3) := by decide +kernel
theorem dX10_init_214 : decode cX10_init 214 = .ok (.aload_n 0, 1) := by decide +kernel
theorem dX10_init_215 : decode cX10_init 215 = .ok (.bipush 8, 2) := by decide +kernel
theorem dX10_init_217 : decode cX10_init 217 = .ok (.newarray .int, 2) := by decide +kernel
theorem dX10_init_219 : decode cX10_init 219 = .ok (.putfield 89, 3) := by decide +kernel
theorem dX10_init_222 : decode cX10_init 222 = .ok (.aload_n 0, 1) := by decide +kernel
theorem dX10_init_223 : decode cX10_init 223 = .ok (.sipush 800, 3) := by decide +kernel
theorem dX10_init_226 : decode cX10_init 226 = .ok (.newarray .long, 2) := by decide +kernel
theorem dX10_init_228 : decode cX10_init 228 = .ok (.putfield 92, 3) := by decide +kernel
theorem dX10_init_231 : decode cX10_init 231 = .ok (.aload_n 0, 1) := by decide +kernel
theorem dX10_init_232 : decode cX10_init 232 = .ok (.bipush 100, 2) := by decide +kernel
theorem dX10_init_234 : decode cX10_init 234 = .ok (.newarray .long, 2) := by decide +kernel
theorem dX10_init_236 : decode cX10_init 236 = .ok (.putfield 96, 3) := by decide +kernel
theorem dX10_init_239 : decode cX10_init 239 = .ok (.aload_n 0, 1) := by decide +kernel
theorem dX10_init_240 : decode cX10_init 240 = .ok (.iconst 0, 1) := by decide +kernel
theorem dX10_init_241 : decode cX10_init 241 = .ok (.putfield 99, 3) := by decide +kernel
theorem dX10_init_244 : decode cX10_init 244 = .ok (.return_, 1) := by decide +kernel
theorem dX10_thrown_0 : decode cX10_thrown 0 = .ok (.aload_n 0, 1) := by decide +kernel
theorem dX10_thrown_1 : decode cX10_thrown 1 = .ok (.getfield 99, 3) := by decide +kernel
theorem dX10_thrown_4 : decode cX10_thrown 4 = .ok (.ireturn, 1) := by decide +kernel
theorem dX10_in_0 : decode cX10_in 0 = .ok (.lload_n 0, 1) := by decide +kernel
theorem dX10_in_1 : decode cX10_in 1 = .ok (.lload_n 2, 1) := by decide +kernel
theorem dX10_in_2 : decode cX10_in 2 = .ok (.lcmp, 1) := by decide +kernel
theorem dX10_in_3 : decode cX10_in 3 = .ok (.ifCond .lt 14, 3) := by decide +kernel
theorem dX10_in_6 : decode cX10_in 6 = .ok (.lload_n 0, 1) := by decide +kernel
theorem dX10_in_7 : decode cX10_in 7 = .ok (.lload 4, 2) := by decide +kernel
theorem dX10_in_9 : decode cX10_in 9 = .ok (.lcmp, 1) := by decide +kernel
theorem dX10_in_10 : decode cX10_in 10 = .ok (.ifCond .gt 7, 3) := by decide +kernel
theorem dX10_in_13 : decode cX10_in 13 = .ok (.iconst 1, 1) := by decide +kernel
theorem dX10_in_14 : decode cX10_in 14 = .ok (.goto 4, 3) := by decide +kernel
theorem dX10_in_17 : decode cX10_in 17 = .ok (.iconst 0, 1) := by decide +kernel
theorem dX10_in_18 : decode cX10_in 18 = .ok (.ireturn, 1) := by decide +kernel
theorem dX10_isField_0 : decode cX10_isField 0 = .ok (.iload_n 1, 1) := by decide +kernel
theorem dX10_isField_1 : decode cX10_isField 1 = .ok (.i2l, 1) := by decide +kernel
theorem dX10_isField_2 : decode cX10_isField 2 = .ok (.lconst 0, 1) := by decide +kernel
theorem dX10_isField_3 : decode cX10_isField 3 = .ok (.aload_n 0, 1) := by decide +kernel
theorem dX10_isField_4 : decode cX10_isField 4 = .ok (.getfield 103, 3) := by decide +kernel
theorem dX10_isField_7 : decode cX10_isField 7 = .ok (.iconst 1, 1) := by decide +kernel
theorem dX10_isField_8 : decode cX10_isField 8 = .ok (.isub, 1) := by decide +kernel
theorem dX10_isField_9 : decode cX10_isField 9 = .ok (.i2l, 1) := by decide +kernel
theorem dX10_isField_10 : decode cX10_isField 10 = .ok (.invokestatic 106, 3) := by decide +kernel
theorem dX10_isField_13 : decode cX10_isField 13 = .ok (.ireturn, 1) := by decide +kernel
theorem dX10_isPerson_0 : decode cX10_isPerson 0 = .ok (.iload_n 1, 1) := by decide +kernel
theorem dX10_isPerson_1 : decode cX10_isPerson 1 = .ok (.i2l, 1) := by decide +kernel
theorem dX10_isPerson_2 : decode cX10_isPerson 2 = .ok (.lconst 0, 1) := by decide +kernel
theorem dX10_isPerson_3 : decode cX10_isPerson 3 = .ok (.aload_n 0, 1) := by decide +kernel
theorem dX10_isPerson_4 : decode cX10_isPerson 4 = .ok (.getfield 110, 3) := by decide +kernel
theorem dX10_isPerson_7 : decode cX10_isPerson 7 = .ok (.iconst 1, 1) := by decide +kernel
theorem dX10_isPerson_8 : decode cX10_isPerson 8 = .ok (.isub, 1) := by decide +kernel
theorem dX10_isPerson_9 : decode cX10_isPerson 9 = .ok (.i2l, 1) := by decide +kernel
theorem dX10_isPerson_10 : decode cX10_isPerson 10 = .ok (.invokestatic 106, 3) := by decide +kernel
theorem dX10_isPerson_13 : decode cX10_isPerson 13 = .ok (.ireturn, 1) := by decide +kernel
theorem dX10_bars_0 : decode cX10_bars 0 = .ok (.aload_n 0, 1) := by decide +kernel
theorem dX10_bars_1 : decode cX10_bars 1 = .ok (.getfield 13, 3) := by decide +kernel
theorem dX10_bars_4 : decode cX10_bars 4 = .ok (.bipush 6, 2) := by decide +kernel
theorem dX10_bars_6 : decode cX10_bars 6 = .ok (.iload_n 1, 1) := by decide +kernel
theorem dX10_bars_7 : decode cX10_bars 7 = .ok (.imul, 1) := by decide +kernel
theorem dX10_bars_8 : decode cX10_bars 8 = .ok (.iload_n 2, 1) := by decide +kernel
theorem dX10_bars_9 : decode cX10_bars 9 = .ok (.iadd, 1) := by decide +kernel
theorem dX10_bars_10 : decode cX10_bars 10 = .ok (.iaload, 1) := by decide +kernel
theorem dX10_bars_11 : decode cX10_bars 11 = .ok (.istore_n 3, 1) := by decide +kernel
theorem dX10_bars_12 : decode cX10_bars 12 = .ok (.iload_n 3, 1) := by decide +kernel
theorem dX10_bars_13 : decode cX10_bars 13 = .ok (.iconst 1, 1) := by decide +kernel
theorem dX10_bars_14 : decode cX10_bars 14 = .ok (.if_icmp .eq 16, 3) := by decide +kernel
theorem dX10_bars_17 : decode cX10_bars 17 = .ok (.iload_n 3, 1) := by decide +kernel
theorem dX10_bars_18 : decode cX10_bars 18 = .ok (.iconst 3, 1) := by decide +kernel
theorem dX10_bars_19 : decode cX10_bars 19 = .ok (.if_icmp .ne 15, 3) := by decide +kernel
theorem dX10_bars_22 : decode cX10_bars 22 = .ok (.aload_n 0, 1) := by decide +kernel
theorem dX10_bars_23 : decode cX10_bars 23 = .ok (.getfield 113, 3) := by decide +kernel
theorem dX10_bars_26 : decode cX10_bars 26 = .ok (.iconst 1, 1) := by decide +kernel
theorem dX10_bars_27 : decode cX10_bars 27 = .ok (.if_icmp .ne 7, 3) := by decide +kernel
theorem dX10_bars_30 : decode cX10_bars 30 = .ok (.iconst 1, 1) := by decide +kernel
theorem dX10_bars_31 : decode cX10_bars 31 = .ok (.goto 4, 3) := by decide +kernel
theorem dX10_bars_34 : decode cX10_bars 34 = .ok (.iconst 0, 1) := by decide +kernel
theorem dX10_bars_35 : decode cX10_bars 35 = .ok (.ireturn, 1) := by decide +kernel
theorem dX10_areKin_0 : decode cX10_areKin 0 = .ok (.aload_n 0, 1) := by decide +kernel
theorem dX10_areKin_1 : decode cX10_areKin 1 = .ok (.getfield 116, 3) := by decide +kernel
theorem dX10_areKin_4 : decode cX10_areKin 4 = .ok (.iconst 1, 1) := by decide +kernel
theorem dX10_areKin_5 : decode cX10_areKin 5 = .ok (.if_icmp .ne 27, 3) := by decide +kernel
theorem dX10_areKin_8 : decode cX10_areKin 8 = .ok (.aload_n 0, 1) := by decide +kernel
theorem dX10_areKin_9 : decode cX10_areKin 9 = .ok (.getfield 19, 3) := by decide +kernel
theorem dX10_areKin_12 : decode cX10_areKin 12 = .ok (.iload_n 1, 1) := by decide +kernel
theorem dX10_areKin_13 : decode cX10_areKin 13 = .ok (.iaload, 1) := by decide +kernel
theorem dX10_areKin_14 : decode cX10_areKin 14 = .ok (.iload_n 2, 1) := by decide +kernel
theorem dX10_areKin_15 : decode cX10_areKin 15 = .ok (.if_icmp .eq 13, 3) := by decide +kernel
theorem dX10_areKin_18 : decode cX10_areKin 18 = .ok (.aload_n 0, 1) := by decide +kernel
theorem dX10_areKin_19 : decode cX10_areKin 19 = .ok (.getfield 19, 3) := by decide +kernel
theorem dX10_areKin_22 : decode cX10_areKin 22 = .ok (.iload_n 2, 1) := by decide +kernel
theorem dX10_areKin_23 : decode cX10_areKin 23 = .ok (.iaload, 1) := by decide +kernel
theorem dX10_areKin_24 : decode cX10_areKin 24 = .ok (.iload_n 1, 1) := by decide +kernel
theorem dX10_areKin_25 : decode cX10_areKin 25 = .ok (.if_icmp .ne 7, 3) := by decide +kernel
theorem dX10_areKin_28 : decode cX10_areKin 28 = .ok (.iconst 1, 1) := by decide +kernel
theorem dX10_areKin_29 : decode cX10_areKin 29 = .ok (.goto 4, 3) := by decide +kernel
theorem dX10_areKin_32 : decode cX10_areKin 32 = .ok (.iconst 0, 1) := by decide +kernel
theorem dX10_areKin_33 : decode cX10_areKin 33 = .ok (.ireturn, 1) := by decide +kernel
theorem dX10_takeNow_0 : decode cX10_takeNow 0 = .ok (.iconst 0, 1) := by decide +kernel
theorem dX10_takeNow_1 : decode cX10_takeNow 1 = .ok (.istore_n 1, 1) := by decide +kernel
theorem dX10_takeNow_2 : decode cX10_takeNow 2 = .ok (.iload_n 1, 1) := by decide +kernel
theorem dX10_takeNow_3 : decode cX10_takeNow 3 = .ok (.bipush 6, 2) := by decide +kernel
theorem dX10_takeNow_5 : decode cX10_takeNow 5 = .ok (.if_icmp .ge 33, 3) := by decide +kernel
theorem dX10_takeNow_8 : decode cX10_takeNow 8 = .ok (.aload_n 0, 1) := by decide +kernel
theorem dX10_takeNow_9 : decode cX10_takeNow 9 = .ok (.getfield 28, 3) := by decide +kernel
theorem dX10_takeNow_12 : decode cX10_takeNow 12 = .ok (.iload_n 1, 1) := by decide +kernel
theorem dX10_takeNow_13 : decode cX10_takeNow 13 = .ok (.iload_n 1, 1) := by decide +kernel
theorem dX10_takeNow_14 : decode cX10_takeNow 14 = .ok (.aload_n 0, 1) := by decide +kernel
theorem dX10_takeNow_15 : decode cX10_takeNow 15 = .ok (.getfield 103, 3) := by decide +kernel
theorem dX10_takeNow_18 : decode cX10_takeNow 18 = .ok (.if_icmp .ge 12, 3) := by decide +kernel
theorem dX10_takeNow_21 : decode cX10_takeNow 21 = .ok (.aload_n 0, 1) := by decide +kernel
theorem dX10_takeNow_22 : decode cX10_takeNow 22 = .ok (.getfield 25, 3) := by decide +kernel
theorem dX10_takeNow_25 : decode cX10_takeNow 25 = .ok (.iload_n 1, 1) := by decide +kernel
theorem dX10_takeNow_26 : decode cX10_takeNow 26 = .ok (.iaload, 1) := by decide +kernel
theorem dX10_takeNow_27 : decode cX10_takeNow 27 = .ok (.goto 4, 3) := by decide +kernel
theorem dX10_takeNow_30 : decode cX10_takeNow 30 = .ok (.iconst 0, 1) := by decide +kernel
theorem dX10_takeNow_31 : decode cX10_takeNow 31 = .ok (.iastore, 1) := by decide +kernel
theorem dX10_takeNow_32 : decode cX10_takeNow 32 = .ok (.iinc 1 1, 3) := by decide +kernel
theorem dX10_takeNow_35 : decode cX10_takeNow 35 = .ok (.goto (-33), 3) := by decide +kernel
theorem dX10_takeNow_38 : decode cX10_takeNow 38 = .ok (.return_, 1) := by decide +kernel
theorem dX10_areApart_0 : decode cX10_areApart 0 = .ok (.aload_n 0, 1) := by decide +kernel
theorem dX10_areApart_1 : decode cX10_areApart 1 = .ok (.getfield 28, 3) := by decide +kernel
theorem dX10_areApart_4 : decode cX10_areApart 4 = .ok (.iload_n 1, 1) := by decide +kernel
theorem dX10_areApart_5 : decode cX10_areApart 5 = .ok (.iaload, 1) := by decide +kernel
theorem dX10_areApart_6 : decode cX10_areApart 6 = .ok (.ifCond .eq 21, 3) := by decide +kernel
theorem dX10_areApart_9 : decode cX10_areApart 9 = .ok (.aload_n 0, 1) := by decide +kernel
theorem dX10_areApart_10 : decode cX10_areApart 10 = .ok (.getfield 28, 3) := by decide +kernel
theorem dX10_areApart_13 : decode cX10_areApart 13 = .ok (.iload_n 2, 1) := by decide +kernel
theorem dX10_areApart_14 : decode cX10_areApart 14 = .ok (.iaload, 1) := by decide +kernel
theorem dX10_areApart_15 : decode cX10_areApart 15 = .ok (.ifCond .eq 12, 3) := by decide +kernel
theorem dX10_areApart_18 : decode cX10_areApart 18 = .ok (.aload_n 0, 1) := by decide +kernel
theorem dX10_areApart_19 : decode cX10_areApart 19 = .ok (.iload_n 1, 1) := by decide +kernel
theorem dX10_areApart_20 : decode cX10_areApart 20 = .ok (.iload_n 2, 1) := by decide +kernel
theorem dX10_areApart_21 : decode cX10_areApart 21 = .ok (.invokevirtual 119, 3) := by decide +kernel
theorem dX10_areApart_24 : decode cX10_areApart 24 = .ok (.ifCond .ne 5, 3) := by decide +kernel
theorem dX10_areApart_27 : decode cX10_areApart 27 = .ok (.iconst 1, 1) := by decide +kernel
theorem dX10_areApart_28 : decode cX10_areApart 28 = .ok (.ireturn, 1) := by decide +kernel
theorem dX10_areApart_29 : decode cX10_areApart 29 = .ok (.aload_n 0, 1) := by decide +kernel
theorem dX10_areApart_30 : decode cX10_areApart 30 = .ok (.getfield 28, 3) := by decide +kernel
theorem dX10_areApart_33 : decode cX10_areApart 33 = .ok (.iload_n 1, 1) := by decide +kernel
theorem dX10_areApart_34 : decode cX10_areApart 34 = .ok (.iaload, 1) := by decide +kernel
theorem dX10_areApart_35 : decode cX10_areApart 35 = .ok (.aload_n 0, 1) := by decide +kernel
theorem dX10_areApart_36 : decode cX10_areApart 36 = .ok (.getfield 28, 3) := by decide +kernel
theorem dX10_areApart_39 : decode cX10_areApart 39 = .ok (.iload_n 2, 1) := by decide +kernel
theorem dX10_areApart_40 : decode cX10_areApart 40 = .ok (.iaload, 1) := by decide +kernel
theorem dX10_areApart_41 : decode cX10_areApart 41 = .ok (.if_icmp .eq 30, 3) := by decide +kernel
theorem dX10_areApart_44 : decode cX10_areApart 44 = .ok (.aload_n 0, 1) := by decide +kernel
theorem dX10_areApart_45 : decode cX10_areApart 45 = .ok (.aload_n 0, 1) := by decide +kernel
theorem dX10_areApart_46 : decode cX10_areApart 46 = .ok (.getfield 28, 3) := by decide +kernel
theorem dX10_areApart_49 : decode cX10_areApart 49 = .ok (.iload_n 1, 1) := by decide +kernel
theorem dX10_areApart_50 : decode cX10_areApart 50 = .ok (.iaload, 1) := by decide +kernel
theorem dX10_areApart_51 : decode cX10_areApart 51 = .ok (.iconst 1, 1) := by decide +kernel
theorem dX10_areApart_52 : decode cX10_areApart 52 = .ok (.isub, 1) := by decide +kernel
theorem dX10_areApart_53 : decode cX10_areApart 53 = .ok (.aload_n 0, 1) := by decide +kernel
theorem dX10_areApart_54 : decode cX10_areApart 54 = .ok (.getfield 28, 3) := by decide +kernel
theorem dX10_areApart_57 : decode cX10_areApart 57 = .ok (.iload_n 2, 1) := by decide +kernel
theorem dX10_areApart_58 : decode cX10_areApart 58 = .ok (.iaload, 1) := by decide +kernel
theorem dX10_areApart_59 : decode cX10_areApart 59 = .ok (.iconst 1, 1) := by decide +kernel
theorem dX10_areApart_60 : decode cX10_areApart 60 = .ok (.isub, 1) := by decide +kernel
theorem dX10_areApart_61 : decode cX10_areApart 61 = .ok (.invokevirtual 123, 3) := by decide +kernel
theorem dX10_areApart_64 : decode cX10_areApart 64 = .ok (.ifCond .ne 7, 3) := by decide +kernel
theorem dX10_areApart_67 : decode cX10_areApart 67 = .ok (.iconst 1, 1) := by decide +kernel
theorem dX10_areApart_68 : decode cX10_areApart 68 = .ok (.goto 4, 3) := by decide +kernel
theorem dX10_areApart_71 : decode cX10_areApart 71 = .ok (.iconst 0, 1) := by decide +kernel
theorem dX10_areApart_72 : decode cX10_areApart 72 = .ok (.ireturn, 1) := by decide +kernel
theorem dX10_isFine_0 : decode cX10_isFine 0 = .ok (.iconst 1, 1) := by decide +kernel
theorem dX10_isFine_1 : decode cX10_isFine 1 = .ok (.istore_n 1, 1) := by decide +kernel
theorem dX10_isFine_2 : decode cX10_isFine 2 = .ok (.iconst 0, 1) := by decide +kernel
theorem dX10_isFine_3 : decode cX10_isFine 3 = .ok (.istore_n 2, 1) := by decide +kernel
theorem dX10_isFine_4 : decode cX10_isFine 4 = .ok (.iload_n 2, 1) := by decide +kernel
theorem dX10_isFine_5 : decode cX10_isFine 5 = .ok (.aload_n 0, 1) := by decide +kernel
theorem dX10_isFine_6 : decode cX10_isFine 6 = .ok (.getfield 103, 3) := by decide +kernel
theorem dX10_isFine_9 : decode cX10_isFine 9 = .ok (.if_icmp .ge 41, 3) := by decide +kernel
theorem dX10_isFine_12 : decode cX10_isFine 12 = .ok (.iconst 0, 1) := by decide +kernel
theorem dX10_isFine_13 : decode cX10_isFine 13 = .ok (.istore_n 3, 1) := by decide +kernel
theorem dX10_isFine_14 : decode cX10_isFine 14 = .ok (.iload_n 3, 1) := by decide +kernel
theorem dX10_isFine_15 : decode cX10_isFine 15 = .ok (.iload_n 2, 1) := by decide +kernel
theorem dX10_isFine_16 : decode cX10_isFine 16 = .ok (.if_icmp .ge 28, 3) := by decide +kernel
theorem dX10_isFine_19 : decode cX10_isFine 19 = .ok (.iload_n 1, 1) := by decide +kernel
theorem dX10_isFine_20 : decode cX10_isFine 20 = .ok (.ifCond .eq 16, 3) := by decide +kernel
theorem dX10_isFine_23 : decode cX10_isFine 23 = .ok (.aload_n 0, 1) := by decide +kernel
theorem dX10_isFine_24 : decode cX10_isFine 24 = .ok (.iload_n 2, 1) := by decide +kernel
theorem dX10_isFine_25 : decode cX10_isFine 25 = .ok (.iload_n 3, 1) := by decide +kernel
theorem dX10_isFine_26 : decode cX10_isFine 26 = .ok (.invokevirtual 126, 3) := by decide +kernel
theorem dX10_isFine_29 : decode cX10_isFine 29 = .ok (.ifCond .eq 7, 3) := by decide +kernel
theorem dX10_isFine_32 : decode cX10_isFine 32 = .ok (.iconst 1, 1) := by decide +kernel
theorem dX10_isFine_33 : decode cX10_isFine 33 = .ok (.goto 4, 3) := by decide +kernel
theorem dX10_isFine_36 : decode cX10_isFine 36 = .ok (.iconst 0, 1) := by decide +kernel
theorem dX10_isFine_37 : decode cX10_isFine 37 = .ok (.istore_n 1, 1) := by decide +kernel
theorem dX10_isFine_38 : decode cX10_isFine 38 = .ok (.iinc 3 1, 3) := by decide +kernel
theorem dX10_isFine_41 : decode cX10_isFine 41 = .ok (.goto (-27), 3) := by decide +kernel
theorem dX10_isFine_44 : decode cX10_isFine 44 = .ok (.iinc 2 1, 3) := by decide +kernel
theorem dX10_isFine_47 : decode cX10_isFine 47 = .ok (.goto (-43), 3) := by decide +kernel
theorem dX10_isFine_50 : decode cX10_isFine 50 = .ok (.iload_n 1, 1) := by decide +kernel
theorem dX10_isFine_51 : decode cX10_isFine 51 = .ok (.ireturn, 1) := by decide +kernel
theorem dX10_worthOf_0 : decode cX10_worthOf 0 = .ok (.iconst 0, 1) := by decide +kernel
theorem dX10_worthOf_1 : decode cX10_worthOf 1 = .ok (.istore_n 2, 1) := by decide +kernel
theorem dX10_worthOf_2 : decode cX10_worthOf 2 = .ok (.iconst 0, 1) := by decide +kernel
theorem dX10_worthOf_3 : decode cX10_worthOf 3 = .ok (.istore_n 3, 1) := by decide +kernel
theorem dX10_worthOf_4 : decode cX10_worthOf 4 = .ok (.iload_n 3, 1) := by decide +kernel
theorem dX10_worthOf_5 : decode cX10_worthOf 5 = .ok (.aload_n 0, 1) := by decide +kernel
theorem dX10_worthOf_6 : decode cX10_worthOf 6 = .ok (.getfield 103, 3) := by decide +kernel
theorem dX10_worthOf_9 : decode cX10_worthOf 9 = .ok (.if_icmp .ge 39, 3) := by decide +kernel
theorem dX10_worthOf_12 : decode cX10_worthOf 12 = .ok (.iload_n 2, 1) := by decide +kernel
theorem dX10_worthOf_13 : decode cX10_worthOf 13 = .ok (.aload_n 0, 1) := by decide +kernel
theorem dX10_worthOf_14 : decode cX10_worthOf 14 = .ok (.getfield 28, 3) := by decide +kernel
theorem dX10_worthOf_17 : decode cX10_worthOf 17 = .ok (.iload_n 3, 1) := by decide +kernel
theorem dX10_worthOf_18 : decode cX10_worthOf 18 = .ok (.iaload, 1) := by decide +kernel
theorem dX10_worthOf_19 : decode cX10_worthOf 19 = .ok (.iload_n 1, 1) := by decide +kernel
theorem dX10_worthOf_20 : decode cX10_worthOf 20 = .ok (.iconst 1, 1) := by decide +kernel
theorem dX10_worthOf_21 : decode cX10_worthOf 21 = .ok (.iadd, 1) := by decide +kernel
theorem dX10_worthOf_22 : decode cX10_worthOf 22 = .ok (.if_icmp .ne 17, 3) := by decide +kernel
theorem dX10_worthOf_25 : decode cX10_worthOf 25 = .ok (.aload_n 0, 1) := by decide +kernel
theorem dX10_worthOf_26 : decode cX10_worthOf 26 = .ok (.getfield 22, 3) := by decide +kernel
theorem dX10_worthOf_29 : decode cX10_worthOf 29 = .ok (.bipush 6, 2) := by decide +kernel
theorem dX10_worthOf_31 : decode cX10_worthOf 31 = .ok (.iload_n 1, 1) := by decide +kernel
theorem dX10_worthOf_32 : decode cX10_worthOf 32 = .ok (.imul, 1) := by decide +kernel
theorem dX10_worthOf_33 : decode cX10_worthOf 33 = .ok (.iload_n 3, 1) := by decide +kernel
theorem dX10_worthOf_34 : decode cX10_worthOf 34 = .ok (.iadd, 1) := by decide +kernel
theorem dX10_worthOf_35 : decode cX10_worthOf 35 = .ok (.iaload, 1) := by decide +kernel
theorem dX10_worthOf_36 : decode cX10_worthOf 36 = .ok (.goto 4, 3) := by decide +kernel
theorem dX10_worthOf_39 : decode cX10_worthOf 39 = .ok (.iconst 0, 1) := by decide +kernel
theorem dX10_worthOf_40 : decode cX10_worthOf 40 = .ok (.iadd, 1) := by decide +kernel
theorem dX10_worthOf_41 : decode cX10_worthOf 41 = .ok (.istore_n 2, 1) := by decide +kernel
theorem dX10_worthOf_42 : decode cX10_worthOf 42 = .ok (.iinc 3 1, 3) := by decide +kernel
theorem dX10_worthOf_45 : decode cX10_worthOf 45 = .ok (.goto (-41), 3) := by decide +kernel
theorem dX10_worthOf_48 : decode cX10_worthOf 48 = .ok (.iload_n 2, 1) := by decide +kernel
theorem dX10_worthOf_49 : decode cX10_worthOf 49 = .ok (.ireturn, 1) := by decide +kernel
theorem dX10_worthOfAll_0 : decode cX10_worthOfAll 0 = .ok (.iconst 0, 1) := by decide +kernel
theorem dX10_worthOfAll_1 : decode cX10_worthOfAll 1 = .ok (.istore_n 1, 1) := by decide +kernel
theorem dX10_worthOfAll_2 : decode cX10_worthOfAll 2 = .ok (.iconst 0, 1) := by decide +kernel
theorem dX10_worthOfAll_3 : decode cX10_worthOfAll 3 = .ok (.istore_n 2, 1) := by decide +kernel
theorem dX10_worthOfAll_4 : decode cX10_worthOfAll 4 = .ok (.iload_n 2, 1) := by decide +kernel
theorem dX10_worthOfAll_5 : decode cX10_worthOfAll 5 = .ok (.aload_n 0, 1) := by decide +kernel
theorem dX10_worthOfAll_6 : decode cX10_worthOfAll 6 = .ok (.getfield 110, 3) := by decide +kernel
theorem dX10_worthOfAll_9 : decode cX10_worthOfAll 9 = .ok (.if_icmp .ge 17, 3) := by decide +kernel
theorem dX10_worthOfAll_12 : decode cX10_worthOfAll 12 = .ok (.iload_n 1, 1) := by decide +kernel
theorem dX10_worthOfAll_13 : decode cX10_worthOfAll 13 = .ok (.aload_n 0, 1) := by decide +kernel
theorem dX10_worthOfAll_14 : decode cX10_worthOfAll 14 = .ok (.iload_n 2, 1) := by decide +kernel
theorem dX10_worthOfAll_15 : decode cX10_worthOfAll 15 = .ok (.invokevirtual 129, 3) := by decide +kernel
theorem dX10_worthOfAll_18 : decode cX10_worthOfAll 18 = .ok (.iadd, 1) := by decide +kernel
theorem dX10_worthOfAll_19 : decode cX10_worthOfAll 19 = .ok (.istore_n 1, 1) := by decide +kernel
theorem dX10_worthOfAll_20 : decode cX10_worthOfAll 20 = .ok (.iinc 2 1, 3) := by decide +kernel
theorem dX10_worthOfAll_23 : decode cX10_worthOfAll 23 = .ok (.goto (-19), 3) := by decide +kernel
theorem dX10_worthOfAll_26 : decode cX10_worthOfAll 26 = .ok (.iload_n 1, 1) := by decide +kernel
theorem dX10_worthOfAll_27 : decode cX10_worthOfAll 27 = .ok (.ireturn, 1) := by decide +kernel
theorem dX10_here_0 : decode cX10_here 0 = .ok (.aload_n 0, 1) := by decide +kernel
theorem dX10_here_1 : decode cX10_here 1 = .ok (.getfield 133, 3) := by decide +kernel
theorem dX10_here_4 : decode cX10_here 4 = .ok (.aload_n 0, 1) := by decide +kernel
theorem dX10_here_5 : decode cX10_here 5 = .ok (.getfield 136, 3) := by decide +kernel
theorem dX10_here_8 : decode cX10_here 8 = .ok (.if_icmp .lt 7, 3) := by decide +kernel
theorem dX10_here_11 : decode cX10_here 11 = .ok (.iconst (-1), 1) := by decide +kernel
theorem dX10_here_12 : decode cX10_here 12 = .ok (.goto 22, 3) := by decide +kernel
theorem dX10_here_15 : decode cX10_here 15 = .ok (.aload_n 0, 1) := by decide +kernel
theorem dX10_here_16 : decode cX10_here 16 = .ok (.getfield 92, 3) := by decide +kernel
theorem dX10_here_19 : decode cX10_here 19 = .ok (.aload_n 0, 1) := by decide +kernel
theorem dX10_here_20 : decode cX10_here 20 = .ok (.getfield 139, 3) := by decide +kernel
theorem dX10_here_23 : decode cX10_here 23 = .ok (.aload_n 0, 1) := by decide +kernel
theorem dX10_here_24 : decode cX10_here 24 = .ok (.getfield 133, 3) := by decide +kernel
theorem dX10_here_27 : decode cX10_here 27 = .ok (.iadd, 1) := by decide +kernel
theorem dX10_here_28 : decode cX10_here 28 = .ok (.laload, 1) := by decide +kernel
theorem dX10_here_29 : decode cX10_here 29 = .ok (.l2i, 1) := by decide +kernel
theorem dX10_here_30 : decode cX10_here 30 = .ok (.sipush 255, 3) := by decide +kernel
theorem dX10_here_33 : decode cX10_here 33 = .ok (.iand, 1) := by decide +kernel
theorem dX10_here_34 : decode cX10_here 34 = .ok (.ireturn, 1) := by decide +kernel
theorem dX10_readDigit_0 : decode cX10_readDigit 0 = .ok (.aload_n 0, 1) := by decide +kernel
theorem dX10_readDigit_1 : decode cX10_readDigit 1 = .ok (.aload_n 0, 1) := by decide +kernel
theorem dX10_readDigit_2 : decode cX10_readDigit 2 = .ok (.getfield 142, 3) := by decide +kernel
theorem dX10_readDigit_5 : decode cX10_readDigit 5 = .ok (.ifCond .ne 20, 3) := by decide +kernel
theorem dX10_readDigit_8 : decode cX10_readDigit 8 = .ok (.aload_n 0, 1) := by decide +kernel
theorem dX10_readDigit_9 : decode cX10_readDigit 9 = .ok (.invokevirtual 146, 3) := by decide +kernel
theorem dX10_readDigit_12 : decode cX10_readDigit 12 = .ok (.i2l, 1) := by decide +kernel
theorem dX10_readDigit_13 : decode cX10_readDigit 13 = .ok (.ldc2_w 150, 3) := by decide +kernel
theorem dX10_readDigit_16 : decode cX10_readDigit 16 = .ok (.ldc2_w 152, 3) := by decide +kernel
theorem dX10_readDigit_19 : decode cX10_readDigit 19 = .ok (.invokestatic 106, 3) := by decide +kernel
theorem dX10_readDigit_22 : decode cX10_readDigit 22 = .ok (.ifCond .ne 7, 3) := by decide +kernel
theorem dX10_readDigit_25 : decode cX10_readDigit 25 = .ok (.iconst 1, 1) := by decide +kernel
theorem dX10_readDigit_26 : decode cX10_readDigit 26 = .ok (.goto 4, 3) := by decide +kernel
theorem dX10_readDigit_29 : decode cX10_readDigit 29 = .ok (.iconst 0, 1) := by decide +kernel
theorem dX10_readDigit_30 : decode cX10_readDigit 30 = .ok (.putfield 142, 3) := by decide +kernel
theorem dX10_readDigit_33 : decode cX10_readDigit 33 = .ok (.aload_n 0, 1) := by decide +kernel
theorem dX10_readDigit_34 : decode cX10_readDigit 34 = .ok (.getfield 142, 3) := by decide +kernel
theorem dX10_readDigit_37 : decode cX10_readDigit 37 = .ok (.ifCond .eq 5, 3) := by decide +kernel
theorem dX10_readDigit_40 : decode cX10_readDigit 40 = .ok (.iconst 0, 1) := by decide +kernel
theorem dX10_readDigit_41 : decode cX10_readDigit 41 = .ok (.ireturn, 1) := by decide +kernel
theorem dX10_readDigit_42 : decode cX10_readDigit 42 = .ok (.aload_n 0, 1) := by decide +kernel
theorem dX10_readDigit_43 : decode cX10_readDigit 43 = .ok (.dup, 1) := by decide +kernel
theorem dX10_readDigit_44 : decode cX10_readDigit 44 = .ok (.getfield 133, 3) := by decide +kernel
theorem dX10_readDigit_47 : decode cX10_readDigit 47 = .ok (.iconst 1, 1) := by decide +kernel
theorem dX10_readDigit_48 : decode cX10_readDigit 48 = .ok (.iadd, 1) := by decide +kernel
theorem dX10_readDigit_49 : decode cX10_readDigit 49 = .ok (.putfield 133, 3) := by decide +kernel
theorem dX10_readDigit_52 : decode cX10_readDigit 52 = .ok (.aload_n 0, 1) := by decide +kernel
theorem dX10_readDigit_53 : decode cX10_readDigit 53 = .ok (.getfield 92, 3) := by decide +kernel
theorem dX10_readDigit_56 : decode cX10_readDigit 56 = .ok (.aload_n 0, 1) := by decide +kernel
theorem dX10_readDigit_57 : decode cX10_readDigit 57 = .ok (.getfield 139, 3) := by decide +kernel
theorem dX10_readDigit_60 : decode cX10_readDigit 60 = .ok (.aload_n 0, 1) := by decide +kernel
theorem dX10_readDigit_61 : decode cX10_readDigit 61 = .ok (.getfield 133, 3) := by decide +kernel
theorem dX10_readDigit_64 : decode cX10_readDigit 64 = .ok (.iadd, 1) := by decide +kernel
theorem dX10_readDigit_65 : decode cX10_readDigit 65 = .ok (.iconst 1, 1) := by decide +kernel
theorem dX10_readDigit_66 : decode cX10_readDigit 66 = .ok (.isub, 1) := by decide +kernel
theorem dX10_readDigit_67 : decode cX10_readDigit 67 = .ok (.laload, 1) := by decide +kernel
theorem dX10_readDigit_68 : decode cX10_readDigit 68 = .ok (.l2i, 1) := by decide +kernel
theorem dX10_readDigit_69 : decode cX10_readDigit 69 = .ok (.bipush 48, 2) := by decide +kernel
theorem dX10_readDigit_71 : decode cX10_readDigit 71 = .ok (.isub, 1) := by decide +kernel
theorem dX10_readDigit_72 : decode cX10_readDigit 72 = .ok (.ireturn, 1) := by decide +kernel
theorem dX10_readNumber_0 : decode cX10_readNumber 0 = .ok (.aload_n 0, 1) := by decide +kernel
theorem dX10_readNumber_1 : decode cX10_readNumber 1 = .ok (.invokevirtual 154, 3) := by decide +kernel
theorem dX10_readNumber_4 : decode cX10_readNumber 4 = .ok (.istore_n 2, 1) := by decide +kernel
theorem dX10_readNumber_5 : decode cX10_readNumber 5 = .ok (.iconst 1, 1) := by decide +kernel
theorem dX10_readNumber_6 : decode cX10_readNumber 6 = .ok (.istore_n 3, 1) := by decide +kernel
theorem dX10_readNumber_7 : decode cX10_readNumber 7 = .ok (.iload_n 3, 1) := by decide +kernel
theorem dX10_readNumber_8 : decode cX10_readNumber 8 = .ok (.iload_n 1, 1) := by decide +kernel
theorem dX10_readNumber_9 : decode cX10_readNumber 9 = .ok (.if_icmp .ge 60, 3) := by decide +kernel
theorem dX10_readNumber_12 : decode cX10_readNumber 12 = .ok (.iload_n 2, 1) := by decide +kernel
theorem dX10_readNumber_13 : decode cX10_readNumber 13 = .ok (.ifCond .le 56, 3) := by decide +kernel
theorem dX10_readNumber_16 : decode cX10_readNumber 16 = .ok (.aload_n 0, 1) := by decide +kernel
theorem dX10_readNumber_17 : decode cX10_readNumber 17 = .ok (.getfield 142, 3) := by decide +kernel
theorem dX10_readNumber_20 : decode cX10_readNumber 20 = .ok (.ifCond .ne 49, 3) := by decide +kernel
theorem dX10_readNumber_23 : decode cX10_readNumber 23 = .ok (.aload_n 0, 1) := by decide +kernel
theorem dX10_readNumber_24 : decode cX10_readNumber 24 = .ok (.invokevirtual 146, 3) := by decide +kernel
theorem dX10_readNumber_27 : decode cX10_readNumber 27 = .ok (.i2l, 1) := by decide +kernel
theorem dX10_readNumber_28 : decode cX10_readNumber 28 = .ok (.ldc2_w 150, 3) := by decide +kernel
theorem dX10_readNumber_31 : decode cX10_readNumber 31 = .ok (.ldc2_w 152, 3) := by decide +kernel
theorem dX10_readNumber_34 : decode cX10_readNumber 34 = .ok (.invokestatic 106, 3) := by decide +kernel
theorem dX10_readNumber_37 : decode cX10_readNumber 37 = .ok (.ifCond .eq 32, 3) := by decide +kernel
theorem dX10_readNumber_40 : decode cX10_readNumber 40 = .ok (.bipush 10, 2) := by decide +kernel
theorem dX10_readNumber_42 : decode cX10_readNumber 42 = .ok (.iload_n 2, 1) := by decide +kernel
theorem dX10_readNumber_43 : decode cX10_readNumber 43 = .ok (.imul, 1) := by decide +kernel
theorem dX10_readNumber_44 : decode cX10_readNumber 44 = .ok (.aload_n 0, 1) := by decide +kernel
theorem dX10_readNumber_45 : decode cX10_readNumber 45 = .ok (.invokevirtual 146, 3) := by decide +kernel
theorem dX10_readNumber_48 : decode cX10_readNumber 48 = .ok (.iadd, 1) := by decide +kernel
theorem dX10_readNumber_49 : decode cX10_readNumber 49 = .ok (.bipush 48, 2) := by decide +kernel
theorem dX10_readNumber_51 : decode cX10_readNumber 51 = .ok (.isub, 1) := by decide +kernel
theorem dX10_readNumber_52 : decode cX10_readNumber 52 = .ok (.istore_n 2, 1) := by decide +kernel
theorem dX10_readNumber_53 : decode cX10_readNumber 53 = .ok (.aload_n 0, 1) := by decide +kernel
theorem dX10_readNumber_54 : decode cX10_readNumber 54 = .ok (.dup, 1) := by decide +kernel
theorem dX10_readNumber_55 : decode cX10_readNumber 55 = .ok (.getfield 133, 3) := by decide +kernel
theorem dX10_readNumber_58 : decode cX10_readNumber 58 = .ok (.iconst 1, 1) := by decide +kernel
theorem dX10_readNumber_59 : decode cX10_readNumber 59 = .ok (.iadd, 1) := by decide +kernel
theorem dX10_readNumber_60 : decode cX10_readNumber 60 = .ok (.putfield 133, 3) := by decide +kernel
theorem dX10_readNumber_63 : decode cX10_readNumber 63 = .ok (.iinc 3 1, 3) := by decide +kernel
theorem dX10_readNumber_66 : decode cX10_readNumber 66 = .ok (.goto (-59), 3) := by decide +kernel
theorem dX10_readNumber_69 : decode cX10_readNumber 69 = .ok (.iload_n 2, 1) := by decide +kernel
theorem dX10_readNumber_70 : decode cX10_readNumber 70 = .ok (.ireturn, 1) := by decide +kernel
theorem dX10_take_0 : decode cX10_take 0 = .ok (.aload_n 0, 1) := by decide +kernel
theorem dX10_take_1 : decode cX10_take 1 = .ok (.aload_n 0, 1) := by decide +kernel
theorem dX10_take_2 : decode cX10_take 2 = .ok (.getfield 142, 3) := by decide +kernel
theorem dX10_take_5 : decode cX10_take 5 = .ok (.ifCond .ne 11, 3) := by decide +kernel
theorem dX10_take_8 : decode cX10_take 8 = .ok (.aload_n 0, 1) := by decide +kernel
theorem dX10_take_9 : decode cX10_take 9 = .ok (.invokevirtual 146, 3) := by decide +kernel
theorem dX10_take_12 : decode cX10_take 12 = .ok (.iload_n 1, 1) := by decide +kernel
theorem dX10_take_13 : decode cX10_take 13 = .ok (.if_icmp .eq 7, 3) := by decide +kernel
theorem dX10_take_16 : decode cX10_take 16 = .ok (.iconst 1, 1) := by decide +kernel
theorem dX10_take_17 : decode cX10_take 17 = .ok (.goto 4, 3) := by decide +kernel
theorem dX10_take_20 : decode cX10_take 20 = .ok (.iconst 0, 1) := by decide +kernel
theorem dX10_take_21 : decode cX10_take 21 = .ok (.putfield 142, 3) := by decide +kernel
theorem dX10_take_24 : decode cX10_take 24 = .ok (.aload_n 0, 1) := by decide +kernel
theorem dX10_take_25 : decode cX10_take 25 = .ok (.dup, 1) := by decide +kernel
theorem dX10_take_26 : decode cX10_take 26 = .ok (.getfield 133, 3) := by decide +kernel
theorem dX10_take_29 : decode cX10_take 29 = .ok (.aload_n 0, 1) := by decide +kernel
theorem dX10_take_30 : decode cX10_take 30 = .ok (.getfield 142, 3) := by decide +kernel
theorem dX10_take_33 : decode cX10_take 33 = .ok (.ifCond .eq 7, 3) := by decide +kernel
theorem dX10_take_36 : decode cX10_take 36 = .ok (.iconst 0, 1) := by decide +kernel
theorem dX10_take_37 : decode cX10_take 37 = .ok (.goto 4, 3) := by decide +kernel
theorem dX10_take_40 : decode cX10_take 40 = .ok (.iconst 1, 1) := by decide +kernel
theorem dX10_take_41 : decode cX10_take 41 = .ok (.iadd, 1) := by decide +kernel
theorem dX10_take_42 : decode cX10_take 42 = .ok (.putfield 133, 3) := by decide +kernel
theorem dX10_take_45 : decode cX10_take 45 = .ok (.return_, 1) := by decide +kernel
theorem dX10_readRest_0 : decode cX10_readRest 0 = .ok (.iload_n 2, 1) := by decide +kernel
theorem dX10_readRest_1 : decode cX10_readRest 1 = .ok (.bipush 112, 2) := by decide +kernel
theorem dX10_readRest_3 : decode cX10_readRest 3 = .ok (.if_icmp .ne 58, 3) := by decide +kernel
theorem dX10_readRest_6 : decode cX10_readRest 6 = .ok (.aload_n 0, 1) := by decide +kernel
theorem dX10_readRest_7 : decode cX10_readRest 7 = .ok (.getfield 37, 3) := by decide +kernel
theorem dX10_readRest_10 : decode cX10_readRest 10 = .ok (.iload_n 1, 1) := by decide +kernel
theorem dX10_readRest_11 : decode cX10_readRest 11 = .ok (.aload_n 0, 1) := by decide +kernel
theorem dX10_readRest_12 : decode cX10_readRest 12 = .ok (.iconst 3, 1) := by decide +kernel
theorem dX10_readRest_13 : decode cX10_readRest 13 = .ok (.invokevirtual 157, 3) := by decide +kernel
theorem dX10_readRest_16 : decode cX10_readRest 16 = .ok (.iastore, 1) := by decide +kernel
theorem dX10_readRest_17 : decode cX10_readRest 17 = .ok (.aload_n 0, 1) := by decide +kernel
theorem dX10_readRest_18 : decode cX10_readRest 18 = .ok (.getfield 40, 3) := by decide +kernel
theorem dX10_readRest_21 : decode cX10_readRest 21 = .ok (.iload_n 1, 1) := by decide +kernel
theorem dX10_readRest_22 : decode cX10_readRest 22 = .ok (.iconst (-1), 1) := by decide +kernel
theorem dX10_readRest_23 : decode cX10_readRest 23 = .ok (.iastore, 1) := by decide +kernel
theorem dX10_readRest_24 : decode cX10_readRest 24 = .ok (.aload_n 0, 1) := by decide +kernel
theorem dX10_readRest_25 : decode cX10_readRest 25 = .ok (.getfield 142, 3) := by decide +kernel
theorem dX10_readRest_28 : decode cX10_readRest 28 = .ok (.ifCond .ne 32, 3) := by decide +kernel
theorem dX10_readRest_31 : decode cX10_readRest 31 = .ok (.aload_n 0, 1) := by decide +kernel
theorem dX10_readRest_32 : decode cX10_readRest 32 = .ok (.invokevirtual 146, 3) := by decide +kernel
theorem dX10_readRest_35 : decode cX10_readRest 35 = .ok (.bipush 107, 2) := by decide +kernel
theorem dX10_readRest_37 : decode cX10_readRest 37 = .ok (.if_icmp .ne 23, 3) := by decide +kernel
theorem dX10_readRest_40 : decode cX10_readRest 40 = .ok (.aload_n 0, 1) := by decide +kernel
theorem dX10_readRest_41 : decode cX10_readRest 41 = .ok (.dup, 1) := by decide +kernel
theorem dX10_readRest_42 : decode cX10_readRest 42 = .ok (.getfield 133, 3) := by decide +kernel
theorem dX10_readRest_45 : decode cX10_readRest 45 = .ok (.iconst 1, 1) := by decide +kernel
theorem dX10_readRest_46 : decode cX10_readRest 46 = .ok (.iadd, 1) := by decide +kernel
theorem dX10_readRest_47 : decode cX10_readRest 47 = .ok (.putfield 133, 3) := by decide +kernel
theorem dX10_readRest_50 : decode cX10_readRest 50 = .ok (.aload_n 0, 1) := by decide +kernel
theorem dX10_readRest_51 : decode cX10_readRest 51 = .ok (.getfield 40, 3) := by decide +kernel
theorem dX10_readRest_54 : decode cX10_readRest 54 = .ok (.iload_n 1, 1) := by decide +kernel
theorem dX10_readRest_55 : decode cX10_readRest 55 = .ok (.aload_n 0, 1) := by decide +kernel
theorem dX10_readRest_56 : decode cX10_readRest 56 = .ok (.invokevirtual 154, 3) := by decide +kernel
theorem dX10_readRest_59 : decode cX10_readRest 59 = .ok (.iastore, 1) := by decide +kernel
theorem dX10_readRest_60 : decode cX10_readRest 60 = .ok (.return_, 1) := by decide +kernel
theorem dX10_readRest_61 : decode cX10_readRest 61 = .ok (.aload_n 0, 1) := by decide +kernel
theorem dX10_readRest_62 : decode cX10_readRest 62 = .ok (.getfield 37, 3) := by decide +kernel
theorem dX10_readRest_65 : decode cX10_readRest 65 = .ok (.iload_n 1, 1) := by decide +kernel
theorem dX10_readRest_66 : decode cX10_readRest 66 = .ok (.aload_n 0, 1) := by decide +kernel
theorem dX10_readRest_67 : decode cX10_readRest 67 = .ok (.invokevirtual 154, 3) := by decide +kernel
theorem dX10_readRest_70 : decode cX10_readRest 70 = .ok (.iastore, 1) := by decide +kernel
theorem dX10_readRest_71 : decode cX10_readRest 71 = .ok (.aload_n 0, 1) := by decide +kernel
theorem dX10_readRest_72 : decode cX10_readRest 72 = .ok (.getfield 40, 3) := by decide +kernel
theorem dX10_readRest_75 : decode cX10_readRest 75 = .ok (.iload_n 1, 1) := by decide +kernel
theorem dX10_readRest_76 : decode cX10_readRest 76 = .ok (.iload_n 2, 1) := by decide +kernel
theorem dX10_readRest_77 : decode cX10_readRest 77 = .ok (.bipush 102, 2) := by decide +kernel
theorem dX10_readRest_79 : decode cX10_readRest 79 = .ok (.if_icmp .ne 7, 3) := by decide +kernel
theorem dX10_readRest_82 : decode cX10_readRest 82 = .ok (.iconst 0, 1) := by decide +kernel
theorem dX10_readRest_83 : decode cX10_readRest 83 = .ok (.goto 7, 3) := by decide +kernel
theorem dX10_readRest_86 : decode cX10_readRest 86 = .ok (.aload_n 0, 1) := by decide +kernel
theorem dX10_readRest_87 : decode cX10_readRest 87 = .ok (.invokevirtual 154, 3) := by decide +kernel
theorem dX10_readRest_90 : decode cX10_readRest 90 = .ok (.iastore, 1) := by decide +kernel
theorem dX10_readRest_91 : decode cX10_readRest 91 = .ok (.aload_n 0, 1) := by decide +kernel
theorem dX10_readRest_92 : decode cX10_readRest 92 = .ok (.getfield 43, 3) := by decide +kernel
theorem dX10_readRest_95 : decode cX10_readRest 95 = .ok (.iload_n 1, 1) := by decide +kernel
theorem dX10_readRest_96 : decode cX10_readRest 96 = .ok (.iconst 0, 1) := by decide +kernel
theorem dX10_readRest_97 : decode cX10_readRest 97 = .ok (.iastore, 1) := by decide +kernel
theorem dX10_readRest_98 : decode cX10_readRest 98 = .ok (.iload_n 2, 1) := by decide +kernel
theorem dX10_readRest_99 : decode cX10_readRest 99 = .ok (.bipush 104, 2) := by decide +kernel
theorem dX10_readRest_101 : decode cX10_readRest 101 = .ok (.if_icmp .ne 36, 3) := by decide +kernel
theorem dX10_readRest_104 : decode cX10_readRest 104 = .ok (.aload_n 0, 1) := by decide +kernel
theorem dX10_readRest_105 : decode cX10_readRest 105 = .ok (.getfield 142, 3) := by decide +kernel
theorem dX10_readRest_108 : decode cX10_readRest 108 = .ok (.ifCond .ne 29, 3) := by decide +kernel
theorem dX10_readRest_111 : decode cX10_readRest 111 = .ok (.aload_n 0, 1) := by decide +kernel
theorem dX10_readRest_112 : decode cX10_readRest 112 = .ok (.invokevirtual 146, 3) := by decide +kernel
theorem dX10_readRest_115 : decode cX10_readRest 115 = .ok (.bipush 108, 2) := by decide +kernel
theorem dX10_readRest_117 : decode cX10_readRest 117 = .ok (.if_icmp .ne 20, 3) := by decide +kernel
theorem dX10_readRest_120 : decode cX10_readRest 120 = .ok (.aload_n 0, 1) := by decide +kernel
theorem dX10_readRest_121 : decode cX10_readRest 121 = .ok (.dup, 1) := by decide +kernel
theorem dX10_readRest_122 : decode cX10_readRest 122 = .ok (.getfield 133, 3) := by decide +kernel
theorem dX10_readRest_125 : decode cX10_readRest 125 = .ok (.iconst 1, 1) := by decide +kernel
theorem dX10_readRest_126 : decode cX10_readRest 126 = .ok (.iadd, 1) := by decide +kernel
theorem dX10_readRest_127 : decode cX10_readRest 127 = .ok (.putfield 133, 3) := by decide +kernel
theorem dX10_readRest_130 : decode cX10_readRest 130 = .ok (.aload_n 0, 1) := by decide +kernel
theorem dX10_readRest_131 : decode cX10_readRest 131 = .ok (.getfield 43, 3) := by decide +kernel
theorem dX10_readRest_134 : decode cX10_readRest 134 = .ok (.iload_n 1, 1) := by decide +kernel
theorem dX10_readRest_135 : decode cX10_readRest 135 = .ok (.iconst 1, 1) := by decide +kernel
theorem dX10_readRest_136 : decode cX10_readRest 136 = .ok (.iastore, 1) := by decide +kernel
theorem dX10_readRest_137 : decode cX10_readRest 137 = .ok (.iload_n 2, 1) := by decide +kernel
theorem dX10_readRest_138 : decode cX10_readRest 138 = .ok (.bipush 119, 2) := by decide +kernel
theorem dX10_readRest_140 : decode cX10_readRest 140 = .ok (.if_icmp .ne 20, 3) := by decide +kernel
theorem dX10_readRest_143 : decode cX10_readRest 143 = .ok (.aload_n 0, 1) := by decide +kernel
theorem dX10_readRest_144 : decode cX10_readRest 144 = .ok (.bipush 32, 2) := by decide +kernel
theorem dX10_readRest_146 : decode cX10_readRest 146 = .ok (.invokevirtual 160, 3) := by decide +kernel
theorem dX10_readRest_149 : decode cX10_readRest 149 = .ok (.aload_n 0, 1) := by decide +kernel
theorem dX10_readRest_150 : decode cX10_readRest 150 = .ok (.getfield 43, 3) := by decide +kernel
theorem dX10_readRest_153 : decode cX10_readRest 153 = .ok (.iload_n 1, 1) := by decide +kernel
theorem dX10_readRest_154 : decode cX10_readRest 154 = .ok (.aload_n 0, 1) := by decide +kernel
theorem dX10_readRest_155 : decode cX10_readRest 155 = .ok (.iconst 2, 1) := by decide +kernel
theorem dX10_readRest_156 : decode cX10_readRest 156 = .ok (.invokevirtual 157, 3) := by decide +kernel
theorem dX10_readRest_159 : decode cX10_readRest 159 = .ok (.iastore, 1) := by decide +kernel
theorem dX10_readRest_160 : decode cX10_readRest 160 = .ok (.return_, 1) := by decide +kernel
theorem dX10_readStatement_0 : decode cX10_readStatement 0 = .ok (.aload_n 0, 1) := by decide +kernel
theorem dX10_readStatement_1 : decode cX10_readStatement 1 = .ok (.getfield 164, 3) := by decide +kernel
theorem dX10_readStatement_4 : decode cX10_readStatement 4 = .ok (.istore_n 1, 1) := by decide +kernel
theorem dX10_readStatement_5 : decode cX10_readStatement 5 = .ok (.aload_n 0, 1) := by decide +kernel
theorem dX10_readStatement_6 : decode cX10_readStatement 6 = .ok (.invokevirtual 146, 3) := by decide +kernel
theorem dX10_readStatement_9 : decode cX10_readStatement 9 = .ok (.istore_n 2, 1) := by decide +kernel
theorem dX10_readStatement_10 : decode cX10_readStatement 10 = .ok (.aload_n 0, 1) := by decide +kernel
theorem dX10_readStatement_11 : decode cX10_readStatement 11 = .ok (.getfield 31, 3) := by decide +kernel
theorem dX10_readStatement_14 : decode cX10_readStatement 14 = .ok (.iload_n 1, 1) := by decide +kernel
theorem dX10_readStatement_15 : decode cX10_readStatement 15 = .ok (.aload_n 0, 1) := by decide +kernel
theorem dX10_readStatement_16 : decode cX10_readStatement 16 = .ok (.getfield 133, 3) := by decide +kernel
theorem dX10_readStatement_19 : decode cX10_readStatement 19 = .ok (.iastore, 1) := by decide +kernel
theorem dX10_readStatement_20 : decode cX10_readStatement 20 = .ok (.aload_n 0, 1) := by decide +kernel
theorem dX10_readStatement_21 : decode cX10_readStatement 21 = .ok (.getfield 34, 3) := by decide +kernel
theorem dX10_readStatement_24 : decode cX10_readStatement 24 = .ok (.iload_n 1, 1) := by decide +kernel
theorem dX10_readStatement_25 : decode cX10_readStatement 25 = .ok (.iload_n 2, 1) := by decide +kernel
theorem dX10_readStatement_26 : decode cX10_readStatement 26 = .ok (.iastore, 1) := by decide +kernel
theorem dX10_readStatement_27 : decode cX10_readStatement 27 = .ok (.aload_n 0, 1) := by decide +kernel
theorem dX10_readStatement_28 : decode cX10_readStatement 28 = .ok (.aload_n 0, 1) := by decide +kernel
theorem dX10_readStatement_29 : decode cX10_readStatement 29 = .ok (.getfield 142, 3) := by decide +kernel
theorem dX10_readStatement_32 : decode cX10_readStatement 32 = .ok (.ifCond .ne 45, 3) := by decide +kernel
theorem dX10_readStatement_35 : decode cX10_readStatement 35 = .ok (.iload_n 2, 1) := by decide +kernel
theorem dX10_readStatement_36 : decode cX10_readStatement 36 = .ok (.bipush 102, 2) := by decide +kernel
theorem dX10_readStatement_38 : decode cX10_readStatement 38 = .ok (.if_icmp .eq 43, 3) := by decide +kernel
theorem dX10_readStatement_41 : decode cX10_readStatement 41 = .ok (.iload_n 2, 1) := by decide +kernel
theorem dX10_readStatement_42 : decode cX10_readStatement 42 = .ok (.bipush 104, 2) := by decide +kernel
theorem dX10_readStatement_44 : decode cX10_readStatement 44 = .ok (.if_icmp .eq 37, 3) := by decide +kernel
theorem dX10_readStatement_47 : decode cX10_readStatement 47 = .ok (.iload_n 2, 1) := by decide +kernel
theorem dX10_readStatement_48 : decode cX10_readStatement 48 = .ok (.bipush 99, 2) := by decide +kernel
theorem dX10_readStatement_50 : decode cX10_readStatement 50 = .ok (.if_icmp .eq 31, 3) := by decide +kernel
theorem dX10_readStatement_53 : decode cX10_readStatement 53 = .ok (.iload_n 2, 1) := by decide +kernel
theorem dX10_readStatement_54 : decode cX10_readStatement 54 = .ok (.bipush 112, 2) := by decide +kernel
theorem dX10_readStatement_56 : decode cX10_readStatement 56 = .ok (.if_icmp .eq 25, 3) := by decide +kernel
theorem dX10_readStatement_59 : decode cX10_readStatement 59 = .ok (.iload_n 2, 1) := by decide +kernel
theorem dX10_readStatement_60 : decode cX10_readStatement 60 = .ok (.bipush 119, 2) := by decide +kernel
theorem dX10_readStatement_62 : decode cX10_readStatement 62 = .ok (.if_icmp .eq 19, 3) := by decide +kernel
theorem dX10_readStatement_65 : decode cX10_readStatement 65 = .ok (.iload_n 2, 1) := by decide +kernel
theorem dX10_readStatement_66 : decode cX10_readStatement 66 = .ok (.bipush 111, 2) := by decide +kernel
theorem dX10_readStatement_68 : decode cX10_readStatement 68 = .ok (.if_icmp .eq 13, 3) := by decide +kernel
theorem dX10_readStatement_71 : decode cX10_readStatement 71 = .ok (.iload_n 2, 1) := by decide +kernel
theorem dX10_readStatement_72 : decode cX10_readStatement 72 = .ok (.bipush 120, 2) := by decide +kernel
theorem dX10_readStatement_74 : decode cX10_readStatement 74 = .ok (.if_icmp .eq 7, 3) := by decide +kernel
theorem dX10_readStatement_77 : decode cX10_readStatement 77 = .ok (.iconst 1, 1) := by decide +kernel
theorem dX10_readStatement_78 : decode cX10_readStatement 78 = .ok (.goto 4, 3) := by decide +kernel
theorem dX10_readStatement_81 : decode cX10_readStatement 81 = .ok (.iconst 0, 1) := by decide +kernel
theorem dX10_readStatement_82 : decode cX10_readStatement 82 = .ok (.putfield 142, 3) := by decide +kernel
theorem dX10_readStatement_85 : decode cX10_readStatement 85 = .ok (.aload_n 0, 1) := by decide +kernel
theorem dX10_readStatement_86 : decode cX10_readStatement 86 = .ok (.dup, 1) := by decide +kernel
theorem dX10_readStatement_87 : decode cX10_readStatement 87 = .ok (.getfield 133, 3) := by decide +kernel
theorem dX10_readStatement_90 : decode cX10_readStatement 90 = .ok (.aload_n 0, 1) := by decide +kernel
theorem dX10_readStatement_91 : decode cX10_readStatement 91 = .ok (.getfield 142, 3) := by decide +kernel
theorem dX10_readStatement_94 : decode cX10_readStatement 94 = .ok (.ifCond .eq 7, 3) := by decide +kernel
theorem dX10_readStatement_97 : decode cX10_readStatement 97 = .ok (.iconst 0, 1) := by decide +kernel
theorem dX10_readStatement_98 : decode cX10_readStatement 98 = .ok (.goto 4, 3) := by decide +kernel
theorem dX10_readStatement_101 : decode cX10_readStatement 101 = .ok (.iconst 1, 1) := by decide +kernel
theorem dX10_readStatement_102 : decode cX10_readStatement 102 = .ok (.iadd, 1) := by decide +kernel
theorem dX10_readStatement_103 : decode cX10_readStatement 103 = .ok (.putfield 133, 3) := by decide +kernel
theorem dX10_readStatement_106 : decode cX10_readStatement 106 = .ok (.aload_n 0, 1) := by decide +kernel
theorem dX10_readStatement_107 : decode cX10_readStatement 107 = .ok (.getfield 142, 3) := by decide +kernel
theorem dX10_readStatement_110 : decode cX10_readStatement 110 = .ok (.ifCond .ne 9, 3) := by decide +kernel
theorem dX10_readStatement_113 : decode cX10_readStatement 113 = .ok (.aload_n 0, 1) := by decide +kernel
theorem dX10_readStatement_114 : decode cX10_readStatement 114 = .ok (.iload_n 1, 1) := by decide +kernel
theorem dX10_readStatement_115 : decode cX10_readStatement 115 = .ok (.iload_n 2, 1) := by decide +kernel
theorem dX10_readStatement_116 : decode cX10_readStatement 116 = .ok (.invokevirtual 167, 3) := by decide +kernel
theorem dX10_readStatement_119 : decode cX10_readStatement 119 = .ok (.aload_n 0, 1) := by decide +kernel
theorem dX10_readStatement_120 : decode cX10_readStatement 120 = .ok (.bipush 59, 2) := by decide +kernel
theorem dX10_readStatement_122 : decode cX10_readStatement 122 = .ok (.invokevirtual 160, 3) := by decide +kernel
theorem dX10_readStatement_125 : decode cX10_readStatement 125 = .ok (.aload_n 0, 1) := by decide +kernel
theorem dX10_readStatement_126 : decode cX10_readStatement 126 = .ok (.dup, 1) := by decide +kernel
theorem dX10_readStatement_127 : decode cX10_readStatement 127 = .ok (.getfield 164, 3) := by decide +kernel
theorem dX10_readStatement_130 : decode cX10_readStatement 130 = .ok (.iconst 1, 1) := by decide +kernel
theorem dX10_readStatement_131 : decode cX10_readStatement 131 = .ok (.iadd, 1) := by decide +kernel
theorem dX10_readStatement_132 : decode cX10_readStatement 132 = .ok (.putfield 164, 3) := by decide +kernel
theorem dX10_readStatement_135 : decode cX10_readStatement 135 = .ok (.return_, 1) := by decide +kernel
theorem dX10_comes_0 : decode cX10_comes 0 = .ok (.aload_n 0, 1) := by decide +kernel
theorem dX10_comes_1 : decode cX10_comes 1 = .ok (.getfield 34, 3) := by decide +kernel
theorem dX10_comes_4 : decode cX10_comes 4 = .ok (.iload_n 1, 1) := by decide +kernel
theorem dX10_comes_5 : decode cX10_comes 5 = .ok (.iaload, 1) := by decide +kernel
theorem dX10_comes_6 : decode cX10_comes 6 = .ok (.istore_n 2, 1) := by decide +kernel
theorem dX10_comes_7 : decode cX10_comes 7 = .ok (.aload_n 0, 1) := by decide +kernel
theorem dX10_comes_8 : decode cX10_comes 8 = .ok (.getfield 37, 3) := by decide +kernel
theorem dX10_comes_11 : decode cX10_comes 11 = .ok (.iload_n 1, 1) := by decide +kernel
theorem dX10_comes_12 : decode cX10_comes 12 = .ok (.iaload, 1) := by decide +kernel
theorem dX10_comes_13 : decode cX10_comes 13 = .ok (.istore_n 3, 1) := by decide +kernel
theorem dX10_comes_14 : decode cX10_comes 14 = .ok (.aload_n 0, 1) := by decide +kernel
theorem dX10_comes_15 : decode cX10_comes 15 = .ok (.getfield 40, 3) := by decide +kernel
theorem dX10_comes_18 : decode cX10_comes 18 = .ok (.iload_n 1, 1) := by decide +kernel
theorem dX10_comes_19 : decode cX10_comes 19 = .ok (.iaload, 1) := by decide +kernel
theorem dX10_comes_20 : decode cX10_comes 20 = .ok (.istore 4, 2) := by decide +kernel
theorem dX10_comes_22 : decode cX10_comes 22 = .ok (.iload_n 2, 1) := by decide +kernel
theorem dX10_comes_23 : decode cX10_comes 23 = .ok (.bipush 102, 2) := by decide +kernel
theorem dX10_comes_25 : decode cX10_comes 25 = .ok (.if_icmp .ne 9, 3) := by decide +kernel
theorem dX10_comes_28 : decode cX10_comes 28 = .ok (.aload_n 0, 1) := by decide +kernel
theorem dX10_comes_29 : decode cX10_comes 29 = .ok (.iload_n 3, 1) := by decide +kernel
theorem dX10_comes_30 : decode cX10_comes 30 = .ok (.invokevirtual 171, 3) := by decide +kernel
theorem dX10_comes_33 : decode cX10_comes 33 = .ok (.ireturn, 1) := by decide +kernel
theorem dX10_comes_34 : decode cX10_comes 34 = .ok (.iload_n 2, 1) := by decide +kernel
theorem dX10_comes_35 : decode cX10_comes 35 = .ok (.bipush 112, 2) := by decide +kernel
theorem dX10_comes_37 : decode cX10_comes 37 = .ok (.if_icmp .ne 11, 3) := by decide +kernel
theorem dX10_comes_40 : decode cX10_comes 40 = .ok (.aload_n 0, 1) := by decide +kernel
theorem dX10_comes_41 : decode cX10_comes 41 = .ok (.iload_n 3, 1) := by decide +kernel
theorem dX10_comes_42 : decode cX10_comes 42 = .ok (.iload 4, 2) := by decide +kernel
theorem dX10_comes_44 : decode cX10_comes 44 = .ok (.invokevirtual 175, 3) := by decide +kernel
theorem dX10_comes_47 : decode cX10_comes 47 = .ok (.ireturn, 1) := by decide +kernel
theorem dX10_comes_48 : decode cX10_comes 48 = .ok (.iload_n 2, 1) := by decide +kernel
theorem dX10_comes_49 : decode cX10_comes 49 = .ok (.bipush 120, 2) := by decide +kernel
theorem dX10_comes_51 : decode cX10_comes 51 = .ok (.if_icmp .ne 31, 3) := by decide +kernel
theorem dX10_comes_54 : decode cX10_comes 54 = .ok (.aload_n 0, 1) := by decide +kernel
theorem dX10_comes_55 : decode cX10_comes 55 = .ok (.iload_n 3, 1) := by decide +kernel
theorem dX10_comes_56 : decode cX10_comes 56 = .ok (.putfield 113, 3) := by decide +kernel
theorem dX10_comes_59 : decode cX10_comes 59 = .ok (.aload_n 0, 1) := by decide +kernel
theorem dX10_comes_60 : decode cX10_comes 60 = .ok (.iload 4, 2) := by decide +kernel
theorem dX10_comes_62 : decode cX10_comes 62 = .ok (.putfield 116, 3) := by decide +kernel
theorem dX10_comes_65 : decode cX10_comes 65 = .ok (.iload_n 3, 1) := by decide +kernel
theorem dX10_comes_66 : decode cX10_comes 66 = .ok (.iconst 2, 1) := by decide +kernel
theorem dX10_comes_67 : decode cX10_comes 67 = .ok (.if_icmp .ge 13, 3) := by decide +kernel
theorem dX10_comes_70 : decode cX10_comes 70 = .ok (.iload 4, 2) := by decide +kernel
theorem dX10_comes_72 : decode cX10_comes 72 = .ok (.iconst 2, 1) := by decide +kernel
theorem dX10_comes_73 : decode cX10_comes 73 = .ok (.if_icmp .ge 7, 3) := by decide +kernel
theorem dX10_comes_76 : decode cX10_comes 76 = .ok (.iconst 1, 1) := by decide +kernel
theorem dX10_comes_77 : decode cX10_comes 77 = .ok (.goto 4, 3) := by decide +kernel
theorem dX10_comes_80 : decode cX10_comes 80 = .ok (.iconst 0, 1) := by decide +kernel
theorem dX10_comes_81 : decode cX10_comes 81 = .ok (.ireturn, 1) := by decide +kernel
theorem dX10_comes_82 : decode cX10_comes 82 = .ok (.iload_n 2, 1) := by decide +kernel
theorem dX10_comes_83 : decode cX10_comes 83 = .ok (.bipush 104, 2) := by decide +kernel
theorem dX10_comes_85 : decode cX10_comes 85 = .ok (.if_icmp .eq 9, 3) := by decide +kernel
theorem dX10_comes_88 : decode cX10_comes 88 = .ok (.iload_n 2, 1) := by decide +kernel
theorem dX10_comes_89 : decode cX10_comes 89 = .ok (.bipush 99, 2) := by decide +kernel
theorem dX10_comes_91 : decode cX10_comes 91 = .ok (.if_icmp .ne 93, 3) := by decide +kernel
theorem dX10_comes_94 : decode cX10_comes 94 = .ok (.aload_n 0, 1) := by decide +kernel
theorem dX10_comes_95 : decode cX10_comes 95 = .ok (.iload_n 3, 1) := by decide +kernel
theorem dX10_comes_96 : decode cX10_comes 96 = .ok (.invokevirtual 178, 3) := by decide +kernel
theorem dX10_comes_99 : decode cX10_comes 99 = .ok (.ifCond .eq 33, 3) := by decide +kernel
theorem dX10_comes_102 : decode cX10_comes 102 = .ok (.aload_n 0, 1) := by decide +kernel
theorem dX10_comes_103 : decode cX10_comes 103 = .ok (.iload 4, 2) := by decide +kernel
theorem dX10_comes_105 : decode cX10_comes 105 = .ok (.invokevirtual 178, 3) := by decide +kernel
theorem dX10_comes_108 : decode cX10_comes 108 = .ok (.ifCond .eq 24, 3) := by decide +kernel
theorem dX10_comes_111 : decode cX10_comes 111 = .ok (.iload_n 3, 1) := by decide +kernel
theorem dX10_comes_112 : decode cX10_comes 112 = .ok (.iload 4, 2) := by decide +kernel
theorem dX10_comes_114 : decode cX10_comes 114 = .ok (.if_icmp .eq 18, 3) := by decide +kernel
theorem dX10_comes_117 : decode cX10_comes 117 = .ok (.aload_n 0, 1) := by decide +kernel
theorem dX10_comes_118 : decode cX10_comes 118 = .ok (.getfield 13, 3) := by decide +kernel
theorem dX10_comes_121 : decode cX10_comes 121 = .ok (.bipush 6, 2) := by decide +kernel
theorem dX10_comes_123 : decode cX10_comes 123 = .ok (.iload_n 3, 1) := by decide +kernel
theorem dX10_comes_124 : decode cX10_comes 124 = .ok (.imul, 1) := by decide +kernel
theorem dX10_comes_125 : decode cX10_comes 125 = .ok (.iload 4, 2) := by decide +kernel
