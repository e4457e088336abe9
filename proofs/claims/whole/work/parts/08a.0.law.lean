theorem lkXL_21 : Cond.methodLink RL 21 yX9_land ∈ TT := TT_at 262 (by decide +kernel) (by decide +kernel)
theorem lkXL_25 : Cond.methodLink RL 25 yX10_land ∈ TT := TT_at 1124 (by decide +kernel) (by decide +kernel)
theorem lkXL_26 : Cond.methodLink RL 26 yX9_field ∈ TT := TT_at 398 (by decide +kernel) (by decide +kernel)
theorem lkXL_30 : Cond.methodLink RL 30 yX10_field ∈ TT := TT_at 1194 (by decide +kernel) (by decide +kernel)
theorem lkXL_31 : Cond.methodLink RL 31 yX9_touch ∈ TT := TT_at 419 (by decide +kernel) (by decide +kernel)
theorem lkXL_34 : Cond.methodLink RL 34 yX10_touch ∈ TT := TT_at 1207 (by decide +kernel) (by decide +kernel)
theorem lkXL_35 : Cond.methodLink RL 35 yX9_person ∈ TT := TT_at 425 (by decide +kernel) (by decide +kernel)
theorem lkXL_38 : Cond.methodLink RL 38 yX10_person ∈ TT := TT_at 1211 (by decide +kernel) (by decide +kernel)
theorem lkXL_39 : Cond.methodLink RL 39 yX9_worth ∈ TT := TT_at 456 (by decide +kernel) (by decide +kernel)
theorem lkXL_42 : Cond.methodLink RL 42 yX10_worth ∈ TT := TT_at 1228 (by decide +kernel) (by decide +kernel)
theorem lkXL_43 : Cond.methodLink RL 43 yX9_law ∈ TT := TT_at 461 (by decide +kernel) (by decide +kernel)
theorem lkXL_46 : Cond.methodLink RL 46 yX10_law ∈ TT := TT_at 1232 (by decide +kernel) (by decide +kernel)
theorem lkXL_47 : Cond.methodLink RL 47 yX9_owns ∈ TT := TT_at 466 (by decide +kernel) (by decide +kernel)
theorem lkXL_50 : Cond.methodLink RL 50 yX10_owns ∈ TT := TT_at 1236 (by decide +kernel) (by decide +kernel)
theorem lkXL_51 : Cond.methodLink RL 51 yX9_lawful ∈ TT := TT_at 472 (by decide +kernel) (by decide +kernel)
theorem lkXL_55 : Cond.methodLink RL 55 yX10_lawful ∈ TT := TT_at 1240 (by decide +kernel) (by decide +kernel)
theorem lkXL_56 : Cond.methodLink RL 56 yX9_firstUnlawful ∈ TT := TT_at 488 (by decide +kernel) (by decide +kernel)
theorem lkXL_59 : Cond.methodLink RL 59 yX10_firstUnlawful ∈ TT := TT_at 1256 (by decide +kernel) (by decide +kernel)
theorem lkXL_60 : Cond.methodLink RL 60 yX9_may ∈ TT := TT_at 493 (by decide +kernel) (by decide +kernel)
theorem lkXL_63 : Cond.methodLink RL 63 yX10_may ∈ TT := TT_at 1260 (by decide +kernel) (by decide +kernel)
theorem lkXL_64 : Cond.methodLink RL 64 yX9_move ∈ TT := TT_at 553 (by decide +kernel) (by decide +kernel)
theorem lkXL_67 : Cond.methodLink RL 67 yX10_move ∈ TT := TT_at 1296 (by decide +kernel) (by decide +kernel)
theorem lkXL_68 : Cond.methodLink RL 68 yX9_judge ∈ TT := TT_at 557 (by decide +kernel) (by decide +kernel)
theorem lkXL_71 : Cond.methodLink RL 71 yX10_judge ∈ TT := TT_at 1300 (by decide +kernel) (by decide +kernel)
theorem lkXL_72 : Cond.methodLink RL 72 yX9_fewest ∈ TT := TT_at 562 (by decide +kernel) (by decide +kernel)
theorem lkXL_75 : Cond.methodLink RL 75 yX10_fewest ∈ TT := TT_at 1305 (by decide +kernel) (by decide +kernel)
theorem lkXL_76 : Cond.methodLink RL 76 yX9_most ∈ TT := TT_at 582 (by decide +kernel) (by decide +kernel)
theorem lkXL_79 : Cond.methodLink RL 79 yX10_most ∈ TT := TT_at 1320 (by decide +kernel) (by decide +kernel)
theorem lkXL_80 : Cond.methodLink RL 80 yX9_best ∈ TT := TT_at 596 (by decide +kernel) (by decide +kernel)
theorem lkXL_83 : Cond.methodLink RL 83 yX10_best ∈ TT := TT_at 1324 (by decide +kernel) (by decide +kernel)
theorem lkXL_84 : Cond.methodLink RL 84 yX9_withMusts ∈ TT := TT_at 631 (by decide +kernel) (by decide +kernel)
theorem lkXL_87 : Cond.methodLink RL 87 yX10_withMusts ∈ TT := TT_at 1340 (by decide +kernel) (by decide +kernel)
theorem lkXL_88 : Cond.methodLink RL 88 yX9_chain ∈ TT := TT_at 635 (by decide +kernel) (by decide +kernel)
theorem lkXL_91 : Cond.methodLink RL 91 yX10_chain ∈ TT := TT_at 1344 (by decide +kernel) (by decide +kernel)
theorem lkXL_92 : Cond.methodLink RL 92 yX9_flood ∈ TT := TT_at 679 (by decide +kernel) (by decide +kernel)
theorem lkXL_95 : Cond.methodLink RL 95 yX10_flood ∈ TT := TT_at 1352 (by decide +kernel) (by decide +kernel)
theorem lkXL_96 : Cond.methodLink RL 96 yX9_frees ∈ TT := TT_at 689 (by decide +kernel) (by decide +kernel)
theorem lkXL_99 : Cond.methodLink RL 99 yX10_frees ∈ TT := TT_at 1356 (by decide +kernel) (by decide +kernel)
theorem lkXL_100 : Cond.methodLink RL 100 yX9_game ∈ TT := TT_at 698 (by decide +kernel) (by decide +kernel)
theorem lkXL_103 : Cond.methodLink RL 103 yX10_game ∈ TT := TT_at 1360 (by decide +kernel) (by decide +kernel)
theorem lkXL_104 : Cond.methodLink RL 104 yX9_value ∈ TT := TT_at 711 (by decide +kernel) (by decide +kernel)
theorem lkXL_107 : Cond.methodLink RL 107 yX10_value ∈ TT := TT_at 1384 (by decide +kernel) (by decide +kernel)
theorem lkXL_108 : Cond.methodLink RL 108 yX9_deeds ∈ TT := TT_at 727 (by decide +kernel) (by decide +kernel)
theorem lkXL_111 : Cond.methodLink RL 111 yX10_deeds ∈ TT := TT_at 1389 (by decide +kernel) (by decide +kernel)
theorem lkXL_112 : Cond.methodLink RL 112 yX9_lots ∈ TT := TT_at 764 (by decide +kernel) (by decide +kernel)
theorem lkXL_115 : Cond.methodLink RL 115 yX10_lots ∈ TT := TT_at 1400 (by decide +kernel) (by decide +kernel)
theorem lkXL_116 : Cond.methodLink RL 116 yX9_image ∈ TT := TT_at 781 (by decide +kernel) (by decide +kernel)
theorem lkXL_119 : Cond.methodLink RL 119 yX10_image ∈ TT := TT_at 1407 (by decide +kernel) (by decide +kernel)
theorem lkXL_120 : Cond.methodLink RL 120 yX9_restore ∈ TT := TT_at 785 (by decide +kernel) (by decide +kernel)
theorem lkXL_123 : Cond.methodLink RL 123 yX10_restore ∈ TT := TT_at 1411 (by decide +kernel) (by decide +kernel)
theorem lkXL_124 : Cond.methodLink RL 124 yX9_count ∈ TT := TT_at 789 (by decide +kernel) (by decide +kernel)
theorem lkXL_127 : Cond.methodLink RL 127 yX10_count ∈ TT := TT_at 1415 (by decide +kernel) (by decide +kernel)
theorem lkXL_128 : Cond.methodLink RL 128 yX9_keep ∈ TT := TT_at 805 (by decide +kernel) (by decide +kernel)
theorem lkXL_132 : Cond.methodLink RL 132 yX10_keep ∈ TT := TT_at 1427 (by decide +kernel) (by decide +kernel)
theorem lkXL_133 : Cond.methodLink RL 133 yX9_row ∈ TT := TT_at 813 (by decide +kernel) (by decide +kernel)
theorem lkXL_137 : Cond.methodLink RL 137 yX10_row ∈ TT := TT_at 1432 (by decide +kernel) (by decide +kernel)
theorem lkXL_138 : Cond.methodLink RL 138 yX9_put ∈ TT := TT_at 822 (by decide +kernel) (by decide +kernel)
theorem lkXL_141 : Cond.methodLink RL 141 yX10_put ∈ TT := TT_at 1436 (by decide +kernel) (by decide +kernel)
theorem lkXL_151 : Cond.methodLink RL 151 yX9_copy ∈ TT := TT_at 834 (by decide +kernel) (by decide +kernel)
theorem lkXL_155 : Cond.methodLink RL 155 yX10_copy ∈ TT := TT_at 1447 (by decide +kernel) (by decide +kernel)
theorem lkXL_156 : Cond.methodLink RL 156 yX9_fee ∈ TT := TT_at 843 (by decide +kernel) (by decide +kernel)
theorem lkXL_159 : Cond.methodLink RL 159 yX10_fee ∈ TT := TT_at 1451 (by decide +kernel) (by decide +kernel)
theorem lkXL_163 : Cond.methodLink RL 163 yX10_toss ∈ TT := TT_at 1459 (by decide +kernel) (by decide +kernel)
theorem okX9_best : okV yX9_best cX9_best 2 (some .int) 1 := ⟨TT_at 599 (by decide +kernel) (by decide +kernel), TT_at 1 (by decide +kernel) (by decide +kernel), TT_at 597 (by decide +kernel) (by decide +kernel), TT_at 598 (by decide +kernel) (by decide +kernel), ⟨by decide +kernel, by decide +kernel⟩, by decide +kernel⟩
theorem okX9_chain : okV yX9_chain cX9_chain 5 (some .int) 1 := ⟨TT_at 638 (by decide +kernel) (by decide +kernel), TT_at 1 (by decide +kernel) (by decide +kernel), TT_at 636 (by decide +kernel) (by decide +kernel), TT_at 637 (by decide +kernel) (by decide +kernel), ⟨by decide +kernel, by decide +kernel⟩, by decide +kernel⟩
theorem okX9_copy : okV yX9_copy cX9_copy 8 (some .int) 5 := ⟨TT_at 837 (by decide +kernel) (by decide +kernel), TT_at 1 (by decide +kernel) (by decide +kernel), TT_at 835 (by decide +kernel) (by decide +kernel), TT_at 836 (by decide +kernel) (by decide +kernel), ⟨by decide +kernel, by decide +kernel⟩, by decide +kernel⟩
theorem okX9_count : okV yX9_count cX9_count 2 (some .int) 1 := ⟨TT_at 792 (by decide +kernel) (by decide +kernel), TT_at 1 (by decide +kernel) (by decide +kernel), TT_at 790 (by decide +kernel) (by decide +kernel), TT_at 791 (by decide +kernel) (by decide +kernel), ⟨by decide +kernel, by decide +kernel⟩, by decide +kernel⟩
theorem okX9_deeds : okV yX9_deeds cX9_deeds 6 (some .int) 2 := ⟨TT_at 730 (by decide +kernel) (by decide +kernel), TT_at 1 (by decide +kernel) (by decide +kernel), TT_at 728 (by decide +kernel) (by decide +kernel), TT_at 729 (by decide +kernel) (by decide +kernel), ⟨by decide +kernel, by decide +kernel⟩, by decide +kernel⟩
theorem okX9_fee : okV yX9_fee cX9_fee 4 (some .int) 1 := ⟨TT_at 846 (by decide +kernel) (by decide +kernel), TT_at 1 (by decide +kernel) (by decide +kernel), TT_at 844 (by decide +kernel) (by decide +kernel), TT_at 845 (by decide +kernel) (by decide +kernel), ⟨by decide +kernel, by decide +kernel⟩, by decide +kernel⟩
theorem okX9_fewest : okV yX9_fewest cX9_fewest 3 (some .int) 1 := ⟨TT_at 565 (by decide +kernel) (by decide +kernel), TT_at 1 (by decide +kernel) (by decide +kernel), TT_at 563 (by decide +kernel) (by decide +kernel), TT_at 564 (by decide +kernel) (by decide +kernel), ⟨by decide +kernel, by decide +kernel⟩, by decide +kernel⟩
theorem okX9_field : okV yX9_field cX9_field 3 (some .int) 2 := ⟨TT_at 401 (by decide +kernel) (by decide +kernel), TT_at 1 (by decide +kernel) (by decide +kernel), TT_at 399 (by decide +kernel) (by decide +kernel), TT_at 400 (by decide +kernel) (by decide +kernel), ⟨by decide +kernel, by decide +kernel⟩, by decide +kernel⟩
theorem okX9_firstUnlawful : okV yX9_firstUnlawful cX9_firstUnlawful 1 (some .int) 0 := ⟨TT_at 491 (by decide +kernel) (by decide +kernel), TT_at 1 (by decide +kernel) (by decide +kernel), TT_at 489 (by decide +kernel) (by decide +kernel), TT_at 490 (by decide +kernel) (by decide +kernel), ⟨by decide +kernel, by decide +kernel⟩, by decide +kernel⟩
theorem okX9_flood : okV yX9_flood cX9_flood 7 (some .int) 2 := ⟨TT_at 682 (by decide +kernel) (by decide +kernel), TT_at 1 (by decide +kernel) (by decide +kernel), TT_at 680 (by decide +kernel) (by decide +kernel), TT_at 681 (by decide +kernel) (by decide +kernel), ⟨by decide +kernel, by decide +kernel⟩, by decide +kernel⟩
theorem okX9_frees : okV yX9_frees cX9_frees 6 (some .int) 0 := ⟨TT_at 692 (by decide +kernel) (by decide +kernel), TT_at 1 (by decide +kernel) (by decide +kernel), TT_at 690 (by decide +kernel) (by decide +kernel), TT_at 691 (by decide +kernel) (by decide +kernel), ⟨by decide +kernel, by decide +kernel⟩, by decide +kernel⟩
theorem okX9_game : okV yX9_game cX9_game 3 (some .int) 1 := ⟨TT_at 701 (by decide +kernel) (by decide +kernel), TT_at 1 (by decide +kernel) (by decide +kernel), TT_at 699 (by decide +kernel) (by decide +kernel), TT_at 700 (by decide +kernel) (by decide +kernel), ⟨by decide +kernel, by decide +kernel⟩, by decide +kernel⟩
theorem okX9_image : okV yX9_image cX9_image 1 (some .int) 0 := ⟨TT_at 784 (by decide +kernel) (by decide +kernel), TT_at 1 (by decide +kernel) (by decide +kernel), TT_at 782 (by decide +kernel) (by decide +kernel), TT_at 783 (by decide +kernel) (by decide +kernel), ⟨by decide +kernel, by decide +kernel⟩, by decide +kernel⟩
theorem okX9_judge : okV yX9_judge cX9_judge 6 (some .int) 1 := ⟨TT_at 560 (by decide +kernel) (by decide +kernel), TT_at 1 (by decide +kernel) (by decide +kernel), TT_at 558 (by decide +kernel) (by decide +kernel), TT_at 559 (by decide +kernel) (by decide +kernel), ⟨by decide +kernel, by decide +kernel⟩, by decide +kernel⟩
theorem okX9_keep : okV yX9_keep cX9_keep 6 (some .int) 4 := ⟨TT_at 808 (by decide +kernel) (by decide +kernel), TT_at 1 (by decide +kernel) (by decide +kernel), TT_at 806 (by decide +kernel) (by decide +kernel), TT_at 807 (by decide +kernel) (by decide +kernel), ⟨by decide +kernel, by decide +kernel⟩, by decide +kernel⟩
theorem okX9_land : okV yX9_land cX9_land 6 (some .int) 1 := ⟨TT_at 265 (by decide +kernel) (by decide +kernel), TT_at 1 (by decide +kernel) (by decide +kernel), TT_at 263 (by decide +kernel) (by decide +kernel), TT_at 264 (by decide +kernel) (by decide +kernel), ⟨by decide +kernel, by decide +kernel⟩, by decide +kernel⟩
theorem okX9_law : okV yX9_law cX9_law 4 (some .int) 2 := ⟨TT_at 464 (by decide +kernel) (by decide +kernel), TT_at 1 (by decide +kernel) (by decide +kernel), TT_at 462 (by decide +kernel) (by decide +kernel), TT_at 463 (by decide +kernel) (by decide +kernel), ⟨by decide +kernel, by decide +kernel⟩, by decide +kernel⟩
theorem okX9_lawful : okV yX9_lawful cX9_lawful 1 (some .int) 0 := ⟨TT_at 475 (by decide +kernel) (by decide +kernel), TT_at 1 (by decide +kernel) (by decide +kernel), TT_at 473 (by decide +kernel) (by decide +kernel), TT_at 474 (by decide +kernel) (by decide +kernel), ⟨by decide +kernel, by decide +kernel⟩, by decide +kernel⟩
theorem okX9_lots : okV yX9_lots cX9_lots 5 (some .int) 2 := ⟨TT_at 767 (by decide +kernel) (by decide +kernel), TT_at 1 (by decide +kernel) (by decide +kernel), TT_at 765 (by decide +kernel) (by decide +kernel), TT_at 766 (by decide +kernel) (by decide +kernel), ⟨by decide +kernel, by decide +kernel⟩, by decide +kernel⟩
theorem okX9_may : okV yX9_may cX9_may 6 (some .int) 2 := ⟨TT_at 496 (by decide +kernel) (by decide +kernel), TT_at 1 (by decide +kernel) (by decide +kernel), TT_at 494 (by decide +kernel) (by decide +kernel), TT_at 495 (by decide +kernel) (by decide +kernel), ⟨by decide +kernel, by decide +kernel⟩, by decide +kernel⟩
theorem okX9_most : okV yX9_most cX9_most 4 (some .int) 2 := ⟨TT_at 585 (by decide +kernel) (by decide +kernel), TT_at 1 (by decide +kernel) (by decide +kernel), TT_at 583 (by decide +kernel) (by decide +kernel), TT_at 584 (by decide +kernel) (by decide +kernel), ⟨by decide +kernel, by decide +kernel⟩, by decide +kernel⟩
theorem okX9_move : okV yX9_move cX9_move 6 (some .int) 1 := ⟨TT_at 556 (by decide +kernel) (by decide +kernel), TT_at 1 (by decide +kernel) (by decide +kernel), TT_at 554 (by decide +kernel) (by decide +kernel), TT_at 555 (by decide +kernel) (by decide +kernel), ⟨by decide +kernel, by decide +kernel⟩, by decide +kernel⟩
theorem okX9_owns : okV yX9_owns cX9_owns 4 (some .int) 2 := ⟨TT_at 469 (by decide +kernel) (by decide +kernel), TT_at 1 (by decide +kernel) (by decide +kernel), TT_at 467 (by decide +kernel) (by decide +kernel), TT_at 468 (by decide +kernel) (by decide +kernel), ⟨by decide +kernel, by decide +kernel⟩, by decide +kernel⟩
theorem okX9_person : okV yX9_person cX9_person 3 (some .int) 2 := ⟨TT_at 428 (by decide +kernel) (by decide +kernel), TT_at 1 (by decide +kernel) (by decide +kernel), TT_at 426 (by decide +kernel) (by decide +kernel), TT_at 427 (by decide +kernel) (by decide +kernel), ⟨by decide +kernel, by decide +kernel⟩, by decide +kernel⟩
theorem okX9_put : okV yX9_put cX9_put 6 (some .int) 3 := ⟨TT_at 825 (by decide +kernel) (by decide +kernel), TT_at 1 (by decide +kernel) (by decide +kernel), TT_at 823 (by decide +kernel) (by decide +kernel), TT_at 824 (by decide +kernel) (by decide +kernel), ⟨by decide +kernel, by decide +kernel⟩, by decide +kernel⟩
theorem okX9_restore : okV yX9_restore cX9_restore 1 (some .int) 0 := ⟨TT_at 788 (by decide +kernel) (by decide +kernel), TT_at 1 (by decide +kernel) (by decide +kernel), TT_at 786 (by decide +kernel) (by decide +kernel), TT_at 787 (by decide +kernel) (by decide +kernel), ⟨by decide +kernel, by decide +kernel⟩, by decide +kernel⟩
theorem okX9_row : okV yX9_row cX9_row 5 (some .int) 3 := ⟨TT_at 816 (by decide +kernel) (by decide +kernel), TT_at 1 (by decide +kernel) (by decide +kernel), TT_at 814 (by decide +kernel) (by decide +kernel), TT_at 815 (by decide +kernel) (by decide +kernel), ⟨by decide +kernel, by decide +kernel⟩, by decide +kernel⟩
theorem okX9_touch : okV yX9_touch cX9_touch 3 (some .int) 2 := ⟨TT_at 422 (by decide +kernel) (by decide +kernel), TT_at 1 (by decide +kernel) (by decide +kernel), TT_at 420 (by decide +kernel) (by decide +kernel), TT_at 421 (by decide +kernel) (by decide +kernel), ⟨by decide +kernel, by decide +kernel⟩, by decide +kernel⟩
theorem okX9_value : okV yX9_value cX9_value 1 (some .int) 0 := ⟨TT_at 714 (by decide +kernel) (by decide +kernel), TT_at 1 (by decide +kernel) (by decide +kernel), TT_at 712 (by decide +kernel) (by decide +kernel), TT_at 713 (by decide +kernel) (by decide +kernel), ⟨by decide +kernel, by decide +kernel⟩, by decide +kernel⟩
theorem okX9_withMusts : okV yX9_withMusts cX9_withMusts 2 (some .int) 1 := ⟨TT_at 634 (by decide +kernel) (by decide +kernel), TT_at 1 (by decide +kernel) (by decide +kernel), TT_at 632 (by decide +kernel) (by decide +kernel), TT_at 633 (by decide +kernel) (by decide +kernel), ⟨by decide +kernel, by decide +kernel⟩, by decide +kernel⟩
theorem okX9_worth : okV yX9_worth cX9_worth 3 (some .int) 2 := ⟨TT_at 459 (by decide +kernel) (by decide +kernel), TT_at 1 (by decide +kernel) (by decide +kernel), TT_at 457 (by decide +kernel) (by decide +kernel), TT_at 458 (by decide +kernel) (by decide +kernel), ⟨by decide +kernel, by decide +kernel⟩, by decide +kernel⟩
theorem okX10_best : okV yX10_best cX10_best 2 (some .int) 1 := ⟨TT_at 1327 (by decide +kernel) (by decide +kernel), TT_at 11 (by decide +kernel) (by decide +kernel), TT_at 1325 (by decide +kernel) (by decide +kernel), TT_at 1326 (by decide +kernel) (by decide +kernel), ⟨by decide +kernel, by decide +kernel⟩, by decide +kernel⟩
theorem okX10_chain : okV yX10_chain cX10_chain 10 (some .int) 1 := ⟨TT_at 1347 (by decide +kernel) (by decide +kernel), TT_at 11 (by decide +kernel) (by decide +kernel), TT_at 1345 (by decide +kernel) (by decide +kernel), TT_at 1346 (by decide +kernel) (by decide +kernel), ⟨by decide +kernel, by decide +kernel⟩, by decide +kernel⟩
theorem okX10_copy : okV yX10_copy cX10_copy 7 (some .int) 5 := ⟨TT_at 1450 (by decide +kernel) (by decide +kernel), TT_at 11 (by decide +kernel) (by decide +kernel), TT_at 1448 (by decide +kernel) (by decide +kernel), TT_at 1449 (by decide +kernel) (by decide +kernel), ⟨by decide +kernel, by decide +kernel⟩, by decide +kernel⟩
theorem okX10_count : okV yX10_count cX10_count 2 (some .int) 1 := ⟨TT_at 1418 (by decide +kernel) (by decide +kernel), TT_at 11 (by decide +kernel) (by decide +kernel), TT_at 1416 (by decide +kernel) (by decide +kernel), TT_at 1417 (by decide +kernel) (by decide +kernel), ⟨by decide +kernel, by decide +kernel⟩, by decide +kernel⟩
theorem okX10_deeds : okV yX10_deeds cX10_deeds 11 (some .int) 2 := ⟨TT_at 1392 (by decide +kernel) (by decide +kernel), TT_at 11 (by decide +kernel) (by decide +kernel), TT_at 1390 (by decide +kernel) (by decide +kernel), TT_at 1391 (by decide +kernel) (by decide +kernel), ⟨by decide +kernel, by decide +kernel⟩, by decide +kernel⟩
theorem okX10_fee : okV yX10_fee cX10_fee 2 (some .int) 1 := ⟨TT_at 1454 (by decide +kernel) (by decide +kernel), TT_at 11 (by decide +kernel) (by decide +kernel), TT_at 1452 (by decide +kernel) (by decide +kernel), TT_at 1453 (by decide +kernel) (by decide +kernel), ⟨by decide +kernel, by decide +kernel⟩, by decide +kernel⟩
theorem okX10_fewest : okV yX10_fewest cX10_fewest 5 (some .int) 1 := ⟨TT_at 1308 (by decide +kernel) (by decide +kernel), TT_at 11 (by decide +kernel) (by decide +kernel), TT_at 1306 (by decide +kernel) (by decide +kernel), TT_at 1307 (by decide +kernel) (by decide +kernel), ⟨by decide +kernel, by decide +kernel⟩, by decide +kernel⟩
theorem okX10_field : okV yX10_field cX10_field 3 (some .int) 2 := ⟨TT_at 1197 (by decide +kernel) (by decide +kernel), TT_at 11 (by decide +kernel) (by decide +kernel), TT_at 1195 (by decide +kernel) (by decide +kernel), TT_at 1196 (by decide +kernel) (by decide +kernel), ⟨by decide +kernel, by decide +kernel⟩, by decide +kernel⟩
theorem okX10_firstUnlawful : okV yX10_firstUnlawful cX10_firstUnlawful 3 (some .int) 0 := ⟨TT_at 1259 (by decide +kernel) (by decide +kernel), TT_at 11 (by decide +kernel) (by decide +kernel), TT_at 1257 (by decide +kernel) (by decide +kernel), TT_at 1258 (by decide +kernel) (by decide +kernel), ⟨by decide +kernel, by decide +kernel⟩, by decide +kernel⟩
theorem okX10_flood : okV yX10_flood cX10_flood 10 (some .int) 2 := ⟨TT_at 1355 (by decide +kernel) (by decide +kernel), TT_at 11 (by decide +kernel) (by decide +kernel), TT_at 1353 (by decide +kernel) (by decide +kernel), TT_at 1354 (by decide +kernel) (by decide +kernel), ⟨by decide +kernel, by decide +kernel⟩, by decide +kernel⟩
theorem okX10_frees : okV yX10_frees cX10_frees 5 (some .int) 0 := ⟨TT_at 1359 (by decide +kernel) (by decide +kernel), TT_at 11 (by decide +kernel) (by decide +kernel), TT_at 1357 (by decide +kernel) (by decide +kernel), TT_at 1358 (by decide +kernel) (by decide +kernel), ⟨by decide +kernel, by decide +kernel⟩, by decide +kernel⟩
theorem okX10_game : okV yX10_game cX10_game 4 (some .int) 1 := ⟨TT_at 1363 (by decide +kernel) (by decide +kernel), TT_at 11 (by decide +kernel) (by decide +kernel), TT_at 1361 (by decide +kernel) (by decide +kernel), TT_at 1362 (by decide +kernel) (by decide +kernel), ⟨by decide +kernel, by decide +kernel⟩, by decide +kernel⟩
theorem okX10_image : okV yX10_image cX10_image 1 (some .int) 0 := ⟨TT_at 1410 (by decide +kernel) (by decide +kernel), TT_at 11 (by decide +kernel) (by decide +kernel), TT_at 1408 (by decide +kernel) (by decide +kernel), TT_at 1409 (by decide +kernel) (by decide +kernel), ⟨by decide +kernel, by decide +kernel⟩, by decide +kernel⟩
theorem okX10_judge : okV yX10_judge cX10_judge 9 (some .int) 1 := ⟨TT_at 1303 (by decide +kernel) (by decide +kernel), TT_at 11 (by decide +kernel) (by decide +kernel), TT_at 1301 (by decide +kernel) (by decide +kernel), TT_at 1302 (by decide +kernel) (by decide +kernel), ⟨by decide +kernel, by decide +kernel⟩, by decide +kernel⟩
theorem okX10_keep : okV yX10_keep cX10_keep 5 (some .int) 4 := ⟨TT_at 1430 (by decide +kernel) (by decide +kernel), TT_at 11 (by decide +kernel) (by decide +kernel), TT_at 1428 (by decide +kernel) (by decide +kernel), TT_at 1429 (by decide +kernel) (by decide +kernel), ⟨by decide +kernel, by decide +kernel⟩, by decide +kernel⟩
theorem okX10_land : okV yX10_land cX10_land 4 (some .int) 1 := ⟨TT_at 1127 (by decide +kernel) (by decide +kernel), TT_at 11 (by decide +kernel) (by decide +kernel), TT_at 1125 (by decide +kernel) (by decide +kernel), TT_at 1126 (by decide +kernel) (by decide +kernel), ⟨by decide +kernel, by decide +kernel⟩, by decide +kernel⟩
theorem okX10_law : okV yX10_law cX10_law 4 (some .int) 2 := ⟨TT_at 1235 (by decide +kernel) (by decide +kernel), TT_at 11 (by decide +kernel) (by decide +kernel), TT_at 1233 (by decide +kernel) (by decide +kernel), TT_at 1234 (by decide +kernel) (by decide +kernel), ⟨by decide +kernel, by decide +kernel⟩, by decide +kernel⟩
theorem okX10_lawful : okV yX10_lawful cX10_lawful 1 (some .int) 0 := ⟨TT_at 1243 (by decide +kernel) (by decide +kernel), TT_at 11 (by decide +kernel) (by decide +kernel), TT_at 1241 (by decide +kernel) (by decide +kernel), TT_at 1242 (by decide +kernel) (by decide +kernel), ⟨by decide +kernel, by decide +kernel⟩, by decide +kernel⟩
theorem okX10_lots : okV yX10_lots cX10_lots 6 (some .int) 2 := ⟨TT_at 1403 (by decide +kernel) (by decide +kernel), TT_at 11 (by decide +kernel) (by decide +kernel), TT_at 1401 (by decide +kernel) (by decide +kernel), TT_at 1402 (by decide +kernel) (by decide +kernel), ⟨by decide +kernel, by decide +kernel⟩, by decide +kernel⟩
theorem okX10_may : okV yX10_may cX10_may 3 (some .int) 2 := ⟨TT_at 1263 (by decide +kernel) (by decide +kernel), TT_at 11 (by decide +kernel) (by decide +kernel), TT_at 1261 (by decide +kernel) (by decide +kernel), TT_at 1262 (by decide +kernel) (by decide +kernel), ⟨by decide +kernel, by decide +kernel⟩, by decide +kernel⟩
theorem okX10_most : okV yX10_most cX10_most 10 (some .int) 2 := ⟨TT_at 1323 (by decide +kernel) (by decide +kernel), TT_at 11 (by decide +kernel) (by decide +kernel), TT_at 1321 (by decide +kernel) (by decide +kernel), TT_at 1322 (by decide +kernel) (by decide +kernel), ⟨by decide +kernel, by decide +kernel⟩, by decide +kernel⟩
theorem okX10_move : okV yX10_move cX10_move 4 (some .int) 1 := ⟨TT_at 1299 (by decide +kernel) (by decide +kernel), TT_at 11 (by decide +kernel) (by decide +kernel), TT_at 1297 (by decide +kernel) (by decide +kernel), TT_at 1298 (by decide +kernel) (by decide +kernel), ⟨by decide +kernel, by decide +kernel⟩, by decide +kernel⟩
theorem okX10_owns : okV yX10_owns cX10_owns 4 (some .int) 2 := ⟨TT_at 1239 (by decide +kernel) (by decide +kernel), TT_at 11 (by decide +kernel) (by decide +kernel), TT_at 1237 (by decide +kernel) (by decide +kernel), TT_at 1238 (by decide +kernel) (by decide +kernel), ⟨by decide +kernel, by decide +kernel⟩, by decide +kernel⟩
theorem okX10_person : okV yX10_person cX10_person 3 (some .int) 2 := ⟨TT_at 1214 (by decide +kernel) (by decide +kernel), TT_at 11 (by decide +kernel) (by decide +kernel), TT_at 1212 (by decide +kernel) (by decide +kernel), TT_at 1213 (by decide +kernel) (by decide +kernel), ⟨by decide +kernel, by decide +kernel⟩, by decide +kernel⟩
theorem okX10_put : okV yX10_put cX10_put 5 (some .int) 3 := ⟨TT_at 1439 (by decide +kernel) (by decide +kernel), TT_at 11 (by decide +kernel) (by decide +kernel), TT_at 1437 (by decide +kernel) (by decide +kernel), TT_at 1438 (by decide +kernel) (by decide +kernel), ⟨by decide +kernel, by decide +kernel⟩, by decide +kernel⟩
theorem okX10_restore : okV yX10_restore cX10_restore 1 (some .int) 0 := ⟨TT_at 1414 (by decide +kernel) (by decide +kernel), TT_at 11 (by decide +kernel) (by decide +kernel), TT_at 1412 (by decide +kernel) (by decide +kernel), TT_at 1413 (by decide +kernel) (by decide +kernel), ⟨by decide +kernel, by decide +kernel⟩, by decide +kernel⟩
theorem okX10_row : okV yX10_row cX10_row 5 (some .int) 3 := ⟨TT_at 1435 (by decide +kernel) (by decide +kernel), TT_at 11 (by decide +kernel) (by decide +kernel), TT_at 1433 (by decide +kernel) (by decide +kernel), TT_at 1434 (by decide +kernel) (by decide +kernel), ⟨by decide +kernel, by decide +kernel⟩, by decide +kernel⟩
theorem okX10_toss : okV yX10_toss cX10_toss 3 (some .int) 1 := ⟨TT_at 1462 (by decide +kernel) (by decide +kernel), TT_at 11 (by decide +kernel) (by decide +kernel), TT_at 1460 (by decide +kernel) (by decide +kernel), TT_at 1461 (by decide +kernel) (by decide +kernel), ⟨by decide +kernel, by decide +kernel⟩, by decide +kernel⟩
theorem okX10_touch : okV yX10_touch cX10_touch 3 (some .int) 2 := ⟨TT_at 1210 (by decide +kernel) (by decide +kernel), TT_at 11 (by decide +kernel) (by decide +kernel), TT_at 1208 (by decide +kernel) (by decide +kernel), TT_at 1209 (by decide +kernel) (by decide +kernel), ⟨by decide +kernel, by decide +kernel⟩, by decide +kernel⟩
theorem okX10_value : okV yX10_value cX10_value 1 (some .int) 0 := ⟨TT_at 1387 (by decide +kernel) (by decide +kernel), TT_at 11 (by decide +kernel) (by decide +kernel), TT_at 1385 (by decide +kernel) (by decide +kernel), TT_at 1386 (by decide +kernel) (by decide +kernel), ⟨by decide +kernel, by decide +kernel⟩, by decide +kernel⟩
theorem okX10_withMusts : okV yX10_withMusts cX10_withMusts 2 (some .int) 1 := ⟨TT_at 1343 (by decide +kernel) (by decide +kernel), TT_at 11 (by decide +kernel) (by decide +kernel), TT_at 1341 (by decide +kernel) (by decide +kernel), TT_at 1342 (by decide +kernel) (by decide +kernel), ⟨by decide +kernel, by decide +kernel⟩, by decide +kernel⟩
theorem okX10_worth : okV yX10_worth cX10_worth 3 (some .int) 2 := ⟨TT_at 1231 (by decide +kernel) (by decide +kernel), TT_at 11 (by decide +kernel) (by decide +kernel), TT_at 1229 (by decide +kernel) (by decide +kernel), TT_at 1230 (by decide +kernel) (by decide +kernel), ⟨by decide +kernel, by decide +kernel⟩, by decide +kernel⟩
theorem okX9_toss : okV yX9_toss cX9_toss 4 (some .int) 1 := ⟨TT_at 854 (by decide +kernel) (by decide +kernel), TT_at 1 (by decide +kernel) (by decide +kernel), TT_at 852 (by decide +kernel) (by decide +kernel), TT_at 853 (by decide +kernel) (by decide +kernel), ⟨by decide +kernel, by decide +kernel⟩, by decide +kernel⟩
theorem lkXL_160 : Cond.methodLink RL 160 yX9_toss ∈ TT := TT_at 851 (by decide +kernel) (by decide +kernel)
/-! ===== the law's own rules ===== -/
theorem nIp1 (i : Nat) : nI i + 1 = nI (i + 1) := by
  have h : (1 : Int32) = nI 1 := by decide
  rw [h]; exact nI_add i 1
theorem nIp2 (i : Nat) : nI i + 2 = nI (i + 2) := by
  have h : (2 : Int32) = nI 2 := by decide
  rw [h]; exact nI_add i 2
theorem nIp3 (i : Nat) : nI i + 3 = nI (i + 3) := by
  have h : (3 : Int32) = nI 3 := by decide
  rw [h]; exact nI_add i 3
theorem nIp4 (i : Nat) : nI i + 4 = nI (i + 4) := by
  have h : (4 : Int32) = nI 4 := by decide
  rw [h]; exact nI_add i 4
theorem nIp5 (i : Nat) : nI i + 5 = nI (i + 5) := by
  have h : (5 : Int32) = nI 5 := by decide
  rw [h]; exact nI_add i 5
def SX (Γ : GT) (b Ls : Nat) (xs : Nat → Int32) : Prop := match Γ with
  | (p, l, e, R, s, m, args, below, meth, c, Q, H0, dC, dI, Y, ad, A, nL) => va_X b Ls xs s H0 ∧ b < H0.size ∧ ¬ A b ∧ Ls < 2 ^ 31
theorem GX_wd {Γ L k n k' n' lv st μ pc} (h1 : k ≤ k') (h2 : n ≤ n') (kk : GX Γ L k' n' lv st μ pc) : GX Γ L k n lv st μ pc := by
  obtain ⟨p, l, e, R, s, m, args, below, meth, c, Q, H0, dC, dI, Y, ad, A, nL⟩ := Γ
  intro H locs ls hP hS hl
  exact W.widen h1 h2 (kk H locs ls hP hS hl)
theorem GX_sld {Γ : GT} {cc : ByteArray} {own : String} {L : LY} {d nL0 k n : Nat} {lv : List (Option Value)} {st : List Value} {μ : MI} {pc : Nat} (hC : CX Γ cc own L d nL0) {b Ls : Nat} {xs : Nat → Int32} (hX : SX Γ b Ls xs) {z : Int32} (j : Nat) (hz : z = nI j) (hj : j < Ls) (hd : decode cc pc = .ok (.iaload, 1)) (kk : GX Γ L k n lv (.int (xs j) :: st) μ (pc + 1)) : GX Γ L k n lv (.int z :: .ref b :: st) μ pc := by
  obtain ⟨p, l, e, R, s, m, args, below, meth, c, Q, H0, dC, dI, Y, ad, A, nL⟩ := Γ
  obtain ⟨hx, hb, hml, hown, hts, hK, hA, hd1, hd2, hnl⟩ := hC
  obtain ⟨x1, x2, x3, hLs⟩ := hX
  intro H locs ls hP hS hl
  subst hz
  refine va_sld hx hb x1 x2 x3 hS (vp_in_nI hj hLs) hd ?_
  rw [nI_clamp (by omega)]
  exact kk H locs ls hP hS hl
theorem GX_slen {Γ : GT} {cc : ByteArray} {own : String} {L : LY} {d nL0 k n : Nat} {lv : List (Option Value)} {st : List Value} {μ : MI} {pc : Nat} (hC : CX Γ cc own L d nL0) {b Ls : Nat} {xs : Nat → Int32} (hX : SX Γ b Ls xs) (hd : decode cc pc = .ok (.arraylength, 1)) (kk : GX Γ L k n lv (.int (nI Ls) :: st) μ (pc + 1)) : GX Γ L k n lv (.ref b :: st) μ pc := by
  obtain ⟨p, l, e, R, s, m, args, below, meth, c, Q, H0, dC, dI, Y, ad, A, nL⟩ := Γ
  obtain ⟨hx, hb, hml, hown, hts, hK, hA, hd1, hd2, hnl⟩ := hC
  obtain ⟨x1, x2, x3, hLs⟩ := hX
  intro H locs ls hP hS hl
  exact va_slen hx hb x1 x2 x3 hS hd (kk H locs ls hP hS hl)
theorem GX_callT {Γ : GT} {cc : ByteArray} {d nL0 k n : Nat} {lv : List (Option Value)} {st st0 : List Value} {μ : MI} {pc : Nat} {a r0 : Int32} (hC : CX Γ cc RL LAY d nL0) (hz : xzG Γ) (hst : (gln Γ).stackTraces = false) (hf : N_tossP a μ = some r0)
    (hdd : 11 ≤ d) (hk : kX Γ (k + 1) (n + 6)) (hs0 : st0 = .int a :: .ref (gad Γ 0) :: st) (hrm : (st.map fun v => v.category).sum ≤ 8) (hd : decode cc pc = .ok (.invokevirtual 160, 3)) (kk : GX Γ LAY (k + 1) (n + 6) lv (.int r0 :: st) μ (pc + 3)) : GX Γ LAY k n lv st0 μ pc := by
  subst hs0
  obtain ⟨p, l, e, R, s, m, args, below, meth, c, Q, H0, dC, dI, Y, ad, A, nL⟩ := Γ
  obtain ⟨hx, hb, hml, hown, hts, hK, hA, hd1, hd2, hnl⟩ := hC
  obtain ⟨hz, hH⟩ := hz
  subst hH
  intro H locs ls hP hS hl
  obtain ⟨o1, o2, o3, o4, o5, o6⟩ := okX9_toss
  have hws : ∀ w ∈ Cond.code yX9_toss cX9_toss 4 (some .int) :: TT, ∀ (a' : Array Value) (U : State), s.WarmedH U.vm → w.before a' U = true := fun w hw a' U hW => by
    rcases List.mem_cons.mp hw with rfl | hw
    · exact TT_pay hts o1 a' U hW
    · exact TT_pay hts hw a' U hW
  refine va_callG (v0 := some (.int r0)) (PP := va_P (dC, dI) vwCl (wsOf ad Y LAY μ)) (va_runV (C := RX9) (As := [.int a]) (rest := st) ⟨hx, hb, hml, hown, hts⟩ (X_toss hst hf dC dI Y ad A)
    ⟨⟨rfl, rfl, by show 10 + 1 ≤ R.frames; omega, by show 8 + (4 + 11) + 100 * 10 ≤ R.locals; omega, hws, List.mem_cons_self, hts _ o1, hts _ o2, o5, fun sig h => by rw [h] at o6; exact (Option.some.inj o6).symm, hts _ lkXL_160⟩, hts _ o3, hts _ o4⟩
    ⟨xP_blind, va_recv hK hP (rfl : vwCl[9]? = some (RX9, TX9, 11)) (ws_at ol_0), fun U hU hW => ⟨rfl, ⟨by rw [hU]; exact hP, va_K.moved hW.alike hK, hA⟩, xz.go hW hU hS hz⟩⟩ rfl rfl (hl.1.trans rfl) rfl (lv_room hrm) hd hk) (fun st oc t h => h) hS (fun H1 locs1 hP1 hS1 => kk H1 locs1 ls hP1 hS1 hl)
