set_option maxRecDepth 100000 in
set_option maxHeartbeats 4000000 in
theorem C_M_thrown {l : Launch} {m1 : MI} {r0 : Int32}  (hf : M_thrown m1 = some r0) : Cn l yX10_thrown cX10_thrown 1 (some .int) 0 LAY (fun ad => .ref (ad 62) :: []) m1 (fun _ => some (.int r0)) m1 := by
  refine Cn.of (fun ad => [some (.ref (ad 62))]) (by decide +kernel) (fun _ => rfl) (fun _ => Nat.le_of_ble_eq_true rfl) (fun Γ hl hC hR hk => ?_)
  subst hl
  replace hC : CX Γ cX10_thrown RX10 LAY 0 1 := hC
  dsimp only [M_thrown] at hf
  refine GX_aload_n hC dX10_thrown_0 rfl ?_
  refine GX_getI hC fkX10_99 ol_62 rfl dX10_thrown_1 ?_
  exact GX_iretR hC hR dX10_thrown_4 (oi hf)
set_option maxRecDepth 100000 in
set_option maxHeartbeats 4000000 in
theorem C_M_in {l : Launch} {v1 : Int64} {low2 : Int64} {high3 : Int64} {μ0 : MI} {r0 : Bool}  (hf : M_in v1 low2 high3 = some r0) : Cn l yX10_in cX10_in 6 (some .boolean) 0 LAY (fun ad => [.long v1, .long low2, .long high3]) μ0 (fun _ => some (.int (bI r0))) μ0 := by
  refine Cn.of (fun ad => [some (.long v1), none, some (.long low2), none, some (.long high3), none]) (by decide +kernel) (fun _ => rfl) (fun _ => Nat.le_of_ble_eq_true rfl) (fun Γ hl hC hR hk => ?_)
  subst hl
  replace hC : CX Γ cX10_in RX10 LAY 0 6 := hC
  dsimp only [M_in] at hf
  obtain ⟨c4, e5, h6⟩ := ob hf
  suffices hJ7 : GX Γ LAY 0 0 [some (.long v1), none, some (.long low2), none, some (.long high3), none] [.int (bI c4)] μ0 18 by
    have hc8 : true = c4 → GX Γ LAY 0 0 [some (.long v1), none, some (.long low2), none, some (.long high3), none] [] μ0 13 := by
      intro q
      subst q
      refine GX_iconst hC (bI true) dX10_in_13 rfl ?_
      refine GX_goto hC 18 dX10_in_14 (by decide) ?_
      exact hJ7
    have hc9 : false = c4 → GX Γ LAY 0 0 [some (.long v1), none, some (.long low2), none, some (.long high3), none] [] μ0 17 := by
      intro q
      subst q
      refine GX_iconst hC (bI false) dX10_in_17 rfl ?_
      exact hJ7
    refine GX_lload_n hC dX10_in_0 rfl ?_
    refine GX_lload_n hC dX10_in_1 rfl ?_
    refine GX_lc_lt_N hC 17 dX10_in_2 dX10_in_3 (by decide) (fun q => ?_) (fun q => ?_)
    · skip
      have h10 := ifP q e5
      refine GX_lload_n hC dX10_in_6 rfl ?_
      refine GX_lload hC dX10_in_7 rfl ?_
      refine GX_lc_gt_N hC 17 dX10_in_9 dX10_in_10 (by decide) (fun q => ?_) (fun q => ?_)
      · skip
        exact hc8 (cdT q h10)
      · skip
        exact hc9 (cdF q h10)
    · skip
      have h11 := ifN q e5
      exact hc9 (oi h11)
  exact GX_zretR hC c4 hR dX10_in_18 (oi h6)
set_option maxRecDepth 100000 in
set_option maxHeartbeats 4000000 in
theorem C_M_isField {l : Launch} {f1 : Int32} {m2 : MI} {r0 : Bool}  (hf : M_isField f1 m2 = some r0) : Cn l yX10_isField cX10_isField 2 (some .boolean) 1 LAY (fun ad => .ref (ad 62) :: [.int f1]) m2 (fun _ => some (.int (bI r0))) m2 := by
  refine Cn.of (fun ad => [some (.ref (ad 62)), some (.int f1)]) (by decide +kernel) (fun _ => rfl) (fun _ => Nat.le_of_ble_eq_true rfl) (fun Γ hl hC hR hk => ?_)
  subst hl
  replace hC : CX Γ cX10_isField RX10 LAY 1 2 := hC
  dsimp only [M_isField] at hf
  refine GX_iload_n hC dX10_isField_0 rfl ?_
  refine GX_i2l hC dX10_isField_1 ?_
  refine GX_lconst hC 0 dX10_isField_2 rfl ?_
  refine GX_aload_n hC dX10_isField_3 rfl ?_
  refine GX_getI hC fkX10_103 ol_62 rfl dX10_isField_4 ?_
  refine GX_iconst hC 1 dX10_isField_7 rfl ?_
  refine GX_isub hC dX10_isField_8 ?_
  refine GX_i2l hC dX10_isField_9 ?_
  obtain ⟨b3, e4, h5⟩ := ob hf
  refine GX_callS_i (st := []) hC (C_M_in e4) okX10_in lkX10_106 rfl (Nat.le_of_ble_eq_true rfl) (Nat.le_of_ble_eq_true rfl) hk rfl (Nat.le_of_ble_eq_true rfl) dX10_isField_10 ?_
  exact GX_zretR hC b3 hR dX10_isField_13 (oi h5)
set_option maxRecDepth 100000 in
set_option maxHeartbeats 4000000 in
theorem C_M_isPerson {l : Launch} {p1 : Int32} {m2 : MI} {r0 : Bool}  (hf : M_isPerson p1 m2 = some r0) : Cn l yX10_isPerson cX10_isPerson 2 (some .boolean) 1 LAY (fun ad => .ref (ad 62) :: [.int p1]) m2 (fun _ => some (.int (bI r0))) m2 := by
  refine Cn.of (fun ad => [some (.ref (ad 62)), some (.int p1)]) (by decide +kernel) (fun _ => rfl) (fun _ => Nat.le_of_ble_eq_true rfl) (fun Γ hl hC hR hk => ?_)
  subst hl
  replace hC : CX Γ cX10_isPerson RX10 LAY 1 2 := hC
  dsimp only [M_isPerson] at hf
  refine GX_iload_n hC dX10_isPerson_0 rfl ?_
  refine GX_i2l hC dX10_isPerson_1 ?_
  refine GX_lconst hC 0 dX10_isPerson_2 rfl ?_
  refine GX_aload_n hC dX10_isPerson_3 rfl ?_
  refine GX_getI hC fkX10_110 ol_62 rfl dX10_isPerson_4 ?_
  refine GX_iconst hC 1 dX10_isPerson_7 rfl ?_
  refine GX_isub hC dX10_isPerson_8 ?_
  refine GX_i2l hC dX10_isPerson_9 ?_
  obtain ⟨b3, e4, h5⟩ := ob hf
  refine GX_callS_i (st := []) hC (C_M_in e4) okX10_in lkX10_106 rfl (Nat.le_of_ble_eq_true rfl) (Nat.le_of_ble_eq_true rfl) hk rfl (Nat.le_of_ble_eq_true rfl) dX10_isPerson_10 ?_
  exact GX_zretR hC b3 hR dX10_isPerson_13 (oi h5)
set_option maxRecDepth 100000 in
set_option maxHeartbeats 4000000 in
theorem C_M_bars {l : Launch} {a1 : Int32} {b2 : Int32} {m3 : MI} {r0 : Bool}  (hf : M_bars a1 b2 m3 = some r0) : Cn l yX10_bars cX10_bars 4 (some .boolean) 0 LAY (fun ad => .ref (ad 62) :: [.int a1, .int b2]) m3 (fun _ => some (.int (bI r0))) m3 := by
  refine Cn.of (fun ad => [some (.ref (ad 62)), some (.int a1), some (.int b2), none]) (by decide +kernel) (fun _ => rfl) (fun _ => Nat.le_of_ble_eq_true rfl) (fun Γ hl hC hR hk => ?_)
  subst hl
  replace hC : CX Γ cX10_bars RX10 LAY 0 4 := hC
  dsimp only [M_bars] at hf
  refine GX_aload_n hC dX10_bars_0 rfl ?_
  refine GX_getR hC fkX10_13 ol_62 rfl dX10_bars_1 ?_
  refine GX_bipush hC 6 dX10_bars_4 rfl ?_
  refine GX_iload_n hC dX10_bars_6 rfl ?_
  refine GX_imul hC dX10_bars_7 ?_
  refine GX_iload_n hC dX10_bars_8 rfl ?_
  refine GX_iadd hC dX10_bars_9 ?_
  obtain ⟨x4, e5, h6⟩ := ob hf
  refine GX_ldA hC e5 al_64 dX10_bars_10 ?_
  refine GX_istore_n hC [some (.ref (gad Γ 62)), some (.int a1), some (.int b2), some (.int x4)] dX10_bars_11 (by decide) rfl rfl ?_
  obtain ⟨c7, e8, h9⟩ := ob h6
  suffices hJ10 : GX Γ LAY 0 0 [some (.ref (gad Γ 62)), some (.int a1), some (.int b2), some (.int x4)] [.int (bI c7)] m3 35 by
    have hc11 : true = c7 → GX Γ LAY 0 0 [some (.ref (gad Γ 62)), some (.int a1), some (.int b2), some (.int x4)] [] m3 30 := by
      intro q
      subst q
      refine GX_iconst hC (bI true) dX10_bars_30 rfl ?_
      refine GX_goto hC 35 dX10_bars_31 (by decide) ?_
      exact hJ10
    have hc12 : false = c7 → GX Γ LAY 0 0 [some (.ref (gad Γ 62)), some (.int a1), some (.int b2), some (.int x4)] [] m3 34 := by
      intro q
      subst q
      refine GX_iconst hC (bI false) dX10_bars_34 rfl ?_
      exact hJ10
    refine GX_iload_n hC dX10_bars_12 rfl ?_
    refine GX_iconst hC 1 dX10_bars_13 rfl ?_
    refine GX_icmp_eq_P hC 30 dX10_bars_14 (by decide) (fun q => ?_) (fun q => ?_)
    · skip
      have h13 := ifP q e8
      exact hc11 (oi h13)
    · skip
      have h14 := ifN q e8
      refine GX_iload_n hC dX10_bars_17 rfl ?_
      refine GX_iconst hC 3 dX10_bars_18 rfl ?_
      refine GX_icmp_ne_N hC 34 dX10_bars_19 (by decide) (fun q => ?_) (fun q => ?_)
      · skip
        have h15 := ifP q h14
        refine GX_aload_n hC dX10_bars_22 rfl ?_
        refine GX_getI hC fkX10_113 ol_62 rfl dX10_bars_23 ?_
        refine GX_iconst hC 1 dX10_bars_26 rfl ?_
        refine GX_icmp_ne_N hC 34 dX10_bars_27 (by decide) (fun q => ?_) (fun q => ?_)
        · skip
          exact hc11 (cdT q h15)
        · skip
          exact hc12 (cdF q h15)
      · skip
        have h16 := ifN q h14
        exact hc12 (oi h16)
  exact GX_zretR hC c7 hR dX10_bars_35 (oi h9)
set_option maxRecDepth 100000 in
set_option maxHeartbeats 4000000 in
theorem C_M_areKin {l : Launch} {p1 : Int32} {q2 : Int32} {m3 : MI} {r0 : Bool}  (hf : M_areKin p1 q2 m3 = some r0) : Cn l yX10_areKin cX10_areKin 3 (some .boolean) 0 LAY (fun ad => .ref (ad 62) :: [.int p1, .int q2]) m3 (fun _ => some (.int (bI r0))) m3 := by
  refine Cn.of (fun ad => [some (.ref (ad 62)), some (.int p1), some (.int q2)]) (by decide +kernel) (fun _ => rfl) (fun _ => Nat.le_of_ble_eq_true rfl) (fun Γ hl hC hR hk => ?_)
  subst hl
  replace hC : CX Γ cX10_areKin RX10 LAY 0 3 := hC
  dsimp only [M_areKin] at hf
  obtain ⟨c4, e5, h6⟩ := ob hf
  suffices hJ7 : GX Γ LAY 0 0 [some (.ref (gad Γ 62)), some (.int p1), some (.int q2)] [.int (bI c4)] m3 33 by
    have hc8 : true = c4 → GX Γ LAY 0 0 [some (.ref (gad Γ 62)), some (.int p1), some (.int q2)] [] m3 28 := by
      intro q
      subst q
      refine GX_iconst hC (bI true) dX10_areKin_28 rfl ?_
      refine GX_goto hC 33 dX10_areKin_29 (by decide) ?_
      exact hJ7
    have hc9 : false = c4 → GX Γ LAY 0 0 [some (.ref (gad Γ 62)), some (.int p1), some (.int q2)] [] m3 32 := by
      intro q
      subst q
      refine GX_iconst hC (bI false) dX10_areKin_32 rfl ?_
      exact hJ7
    refine GX_aload_n hC dX10_areKin_0 rfl ?_
    refine GX_getI hC fkX10_116 ol_62 rfl dX10_areKin_1 ?_
    refine GX_iconst hC 1 dX10_areKin_4 rfl ?_
    refine GX_icmp_ne_N hC 32 dX10_areKin_5 (by decide) (fun q => ?_) (fun q => ?_)
    · skip
      have h10 := ifP q e5
      refine GX_aload_n hC dX10_areKin_8 rfl ?_
      refine GX_getR hC fkX10_19 ol_62 rfl dX10_areKin_9 ?_
      refine GX_iload_n hC dX10_areKin_12 rfl ?_
      obtain ⟨x11, e12, h13⟩ := ob h10
      refine GX_ldA hC e12 al_66 dX10_areKin_13 ?_
      refine GX_iload_n hC dX10_areKin_14 rfl ?_
      refine GX_icmp_eq_P hC 28 dX10_areKin_15 (by decide) (fun q => ?_) (fun q => ?_)
      · skip
        have h14 := ifP q h13
        exact hc8 (oi h14)
      · skip
        have h15 := ifN q h13
        refine GX_aload_n hC dX10_areKin_18 rfl ?_
        refine GX_getR hC fkX10_19 ol_62 rfl dX10_areKin_19 ?_
        refine GX_iload_n hC dX10_areKin_22 rfl ?_
        obtain ⟨x16, e17, h18⟩ := ob h15
        refine GX_ldA hC e17 al_66 dX10_areKin_23 ?_
        refine GX_iload_n hC dX10_areKin_24 rfl ?_
        refine GX_icmp_ne_N hC 32 dX10_areKin_25 (by decide) (fun q => ?_) (fun q => ?_)
        · skip
          exact hc8 (cdT q h18)
        · skip
          exact hc9 (cdF q h18)
    · skip
      have h19 := ifN q e5
      exact hc9 (oi h19)
  exact GX_zretR hC c4 hR dX10_areKin_33 (oi h6)
set_option maxRecDepth 100000 in
set_option maxHeartbeats 4000000 in
theorem C_M_takeNow {l : Launch} {m1 : MI} {mr : MI}  (hf : M_takeNow m1 = some mr) : Cn l yX10_takeNow cX10_takeNow 2 none 0 LAY (fun ad => .ref (ad 62) :: []) m1 (fun _ => none) mr := by
  refine Cn.of (fun ad => [some (.ref (ad 62)), none]) (by decide +kernel) (fun _ => rfl) (fun _ => Nat.le_of_ble_eq_true rfl) (fun Γ hl hC hR hk => ?_)
  subst hl
  replace hC : CX Γ cX10_takeNow RX10 LAY 0 2 := hC
  dsimp only [M_takeNow] at hf
  refine GX_iconst hC 0 dX10_takeNow_0 rfl ?_
  refine GX_istore_n hC [some (.ref (gad Γ 62)), some (.int 0)] dX10_takeNow_1 (by decide) rfl rfl ?_
  obtain ⟨o2, e3, h4⟩ := ob hf
  suffices hJ5 : ∀ (m8 : MI), m8 = o2 → GX Γ LAY 0 0 [some (.ref (gad Γ 62)), none] [] m8 38 by
    refine lp_walk (P := fun s => GX Γ LAY 0 0 [some (.ref (gad Γ 62)), some (.int s.1)] [] s.2 2) (fun s x hx5 hI5 hO5 => ?_) _ _ e3
    obtain ⟨f6, m7⟩ := s
    show GX Γ LAY 0 0 [some (.ref (gad Γ 62)), some (.int f6)] [] m7 2
    dsimp only [M_takeNow_s1] at hx5
    refine GX_iload_n hC dX10_takeNow_2 rfl ?_
    refine GX_bipush hC 6 dX10_takeNow_3 rfl ?_
    refine GX_icmp_ge_N hC 38 dX10_takeNow_5 (by decide) (fun q => ?_) (fun q => ?_)
    · skip
      have h9 := ifP q hx5
      refine GX_aload_n hC dX10_takeNow_8 rfl ?_
      refine GX_getR hC fkX10_28 ol_62 rfl dX10_takeNow_9 ?_
      refine GX_iload_n hC dX10_takeNow_12 rfl ?_
      obtain ⟨x10, e11, h12⟩ := ob h9
      suffices hJ13 : GX Γ LAY 0 0 [some (.ref (gad Γ 62)), some (.int f6)] [.int x10, .int f6, .ref (gad Γ 69)] m7 31 by
        refine GX_iload_n hC dX10_takeNow_13 rfl ?_
        refine GX_aload_n hC dX10_takeNow_14 rfl ?_
        refine GX_getI hC fkX10_103 ol_62 rfl dX10_takeNow_15 ?_
        refine GX_icmp_ge_N hC 30 dX10_takeNow_18 (by decide) (fun q => ?_) (fun q => ?_)
        · skip
          have h14 := ifP q e11
          refine GX_aload_n hC dX10_takeNow_21 rfl ?_
          refine GX_getR hC fkX10_25 ol_62 rfl dX10_takeNow_22 ?_
          refine GX_iload_n hC dX10_takeNow_25 rfl ?_
          obtain ⟨x15, e16, h17⟩ := ob h14
          refine GX_ldA hC e16 al_68 dX10_takeNow_26 ?_
          refine GX_goto hC 31 dX10_takeNow_27 (by decide) ?_
          exact GX_nm (oi h17) hJ13
        · skip
          have h18 := ifN q e11
          refine GX_iconst hC 0 dX10_takeNow_30 rfl ?_
          exact GX_nm (oi h18) hJ13
      obtain ⟨m19, e20, h21⟩ := ob h12
      refine GX_stA hC e20 al_69 dX10_takeNow_31 ?_
      obtain ⟨i22, e23, h24⟩ := ob h21
      refine GX_iinc hC i22 [some (.ref (gad Γ 62)), some (.int i22)] dX10_takeNow_32 rfl (oi e23) (by decide) rfl rfl ?_
      refine GX_goto hC 2 dX10_takeNow_35 (by decide) ?_
      exact hI5 _ (oi h24).symm
    · skip
      have h25 := ifN q hx5
      exact GX.le (hJ5 _ (hO5 _ (oi h25).symm)) ⟨rfl, trivial⟩
  intro m8 q26
  subst q26
  exact GX_vretW hC hR dX10_takeNow_38 (oi h4)
set_option maxRecDepth 100000 in
set_option maxHeartbeats 4000000 in
theorem C_M_areApart {l : Launch} {a1 : Int32} {b2 : Int32} {m3 : MI} {r0 : Bool}  (hf : M_areApart a1 b2 m3 = some r0) : Cn l yX10_areApart cX10_areApart 3 (some .boolean) 1 LAY (fun ad => .ref (ad 62) :: [.int a1, .int b2]) m3 (fun _ => some (.int (bI r0))) m3 := by
  refine Cn.of (fun ad => [some (.ref (ad 62)), some (.int a1), some (.int b2)]) (by decide +kernel) (fun _ => rfl) (fun _ => Nat.le_of_ble_eq_true rfl) (fun Γ hl hC hR hk => ?_)
  subst hl
  replace hC : CX Γ cX10_areApart RX10 LAY 1 3 := hC
  dsimp only [M_areApart] at hf
  obtain ⟨c4, e5, h6⟩ := ob hf
  have hc7 : true = c4 → GX Γ LAY 0 0 [some (.ref (gad Γ 62)), some (.int a1), some (.int b2)] [] m3 27 := by
    intro q
    have h8 := ifT q.symm h6
    refine GX_iconst hC (bI true) dX10_areApart_27 rfl ?_
    exact GX_zretR hC true hR dX10_areApart_28 (oi h8)
  have hc9 : false = c4 → GX Γ LAY 0 0 [some (.ref (gad Γ 62)), some (.int a1), some (.int b2)] [] m3 29 := by
    intro q
    have h10 := ifF q.symm h6
    obtain ⟨c11, e12, h13⟩ := ob h10
    suffices hJ14 : GX Γ LAY 0 0 [some (.ref (gad Γ 62)), some (.int a1), some (.int b2)] [.int (bI c11)] m3 72 by
      have hc15 : true = c11 → GX Γ LAY 0 0 [some (.ref (gad Γ 62)), some (.int a1), some (.int b2)] [] m3 67 := by
        intro q
        subst q
        refine GX_iconst hC (bI true) dX10_areApart_67 rfl ?_
        refine GX_goto hC 72 dX10_areApart_68 (by decide) ?_
        exact hJ14
      have hc16 : false = c11 → GX Γ LAY 0 0 [some (.ref (gad Γ 62)), some (.int a1), some (.int b2)] [] m3 71 := by
        intro q
        subst q
        refine GX_iconst hC (bI false) dX10_areApart_71 rfl ?_
        exact hJ14
      refine GX_aload_n hC dX10_areApart_29 rfl ?_
      refine GX_getR hC fkX10_28 ol_62 rfl dX10_areApart_30 ?_
      refine GX_iload_n hC dX10_areApart_33 rfl ?_
      obtain ⟨x17, e18, h19⟩ := ob e12
      refine GX_ldA hC e18 al_69 dX10_areApart_34 ?_
      refine GX_aload_n hC dX10_areApart_35 rfl ?_
      refine GX_getR hC fkX10_28 ol_62 rfl dX10_areApart_36 ?_
      refine GX_iload_n hC dX10_areApart_39 rfl ?_
      obtain ⟨x20, e21, h22⟩ := ob h19
      refine GX_ldA hC e21 al_69 dX10_areApart_40 ?_
      refine GX_icmp_eq_N hC 71 dX10_areApart_41 (by decide) (fun q => ?_) (fun q => ?_)
      · skip
        have h23 := ifP q h22
        refine GX_aload_n hC dX10_areApart_44 rfl ?_
        refine GX_aload_n hC dX10_areApart_45 rfl ?_
        refine GX_getR hC fkX10_28 ol_62 rfl dX10_areApart_46 ?_
        refine GX_iload_n hC dX10_areApart_49 rfl ?_
        obtain ⟨x24, e25, h26⟩ := ob h23
        refine GX_ldA hC e25 al_69 dX10_areApart_50 ?_
        refine GX_iconst hC 1 dX10_areApart_51 rfl ?_
        refine GX_isub hC dX10_areApart_52 ?_
        refine GX_aload_n hC dX10_areApart_53 rfl ?_
        refine GX_getR hC fkX10_28 ol_62 rfl dX10_areApart_54 ?_
        refine GX_iload_n hC dX10_areApart_57 rfl ?_
        obtain ⟨x27, e28, h29⟩ := ob h26
        refine GX_ldA hC e28 al_69 dX10_areApart_58 ?_
        refine GX_iconst hC 1 dX10_areApart_59 rfl ?_
        refine GX_isub hC dX10_areApart_60 ?_
        obtain ⟨b30, e31, h32⟩ := ob h29
        refine GX_callV_i (st := []) hC (C_M_areKin e31) okX10_areKin lkX10_123 ol_62 rfl rfl (Nat.le_of_ble_eq_true rfl) (Nat.le_of_ble_eq_true rfl) hk rfl (Nat.le_of_ble_eq_true rfl) dX10_areApart_61 ?_
        refine GX_ifb_ne hC 71 dX10_areApart_64 (by decide) (fun q => ?_) (fun q => ?_)
        · skip
          exact hc16 (cbnT q h32)
        · skip
          exact hc15 (cbnF q h32)
      · skip
        have h33 := ifN q h22
        exact hc16 (oi h33)
    exact GX_zretR hC c11 hR dX10_areApart_72 (oi h13)
  refine GX_aload_n hC dX10_areApart_0 rfl ?_
  refine GX_getR hC fkX10_28 ol_62 rfl dX10_areApart_1 ?_
  refine GX_iload_n hC dX10_areApart_4 rfl ?_
  obtain ⟨x34, e35, h36⟩ := ob e5
  refine GX_ldA hC e35 al_69 dX10_areApart_5 ?_
  refine GX_if_eq_P hC 27 dX10_areApart_6 (by decide) (fun q => ?_) (fun q => ?_)
  · skip
    have h37 := ifP q h36
    exact hc7 (oi h37)
  · skip
    have h38 := ifN q h36
    refine GX_aload_n hC dX10_areApart_9 rfl ?_
    refine GX_getR hC fkX10_28 ol_62 rfl dX10_areApart_10 ?_
    refine GX_iload_n hC dX10_areApart_13 rfl ?_
    obtain ⟨x39, e40, h41⟩ := ob h38
    refine GX_ldA hC e40 al_69 dX10_areApart_14 ?_
    refine GX_if_eq_P hC 27 dX10_areApart_15 (by decide) (fun q => ?_) (fun q => ?_)
    · skip
      have h42 := ifP q h41
      exact hc7 (oi h42)
    · skip
      have h43 := ifN q h41
      refine GX_aload_n hC dX10_areApart_18 rfl ?_
      refine GX_iload_n hC dX10_areApart_19 rfl ?_
      refine GX_iload_n hC dX10_areApart_20 rfl ?_
      obtain ⟨b44, e45, h46⟩ := ob h43
      refine GX_callV_i (st := []) hC (C_M_bars e45) okX10_bars lkX10_119 ol_62 rfl rfl (Nat.le_of_ble_eq_true rfl) (Nat.le_of_ble_eq_true rfl) hk rfl (Nat.le_of_ble_eq_true rfl) dX10_areApart_21 ?_
      refine GX_ifb_ne hC 29 dX10_areApart_24 (by decide) (fun q => ?_) (fun q => ?_)
      · skip
        exact hc9 (cbnT q h46)
      · skip
        exact hc7 (cbnF q h46)
set_option maxRecDepth 100000 in
set_option maxHeartbeats 4000000 in
theorem C_M_isFine {l : Launch} {m1 : MI} {r0 : Bool}  (hf : M_isFine m1 = some r0) : Cn l yX10_isFine cX10_isFine 4 (some .boolean) 2 LAY (fun ad => .ref (ad 62) :: []) m1 (fun _ => some (.int (bI r0))) m1 := by
  refine Cn.of (fun ad => [some (.ref (ad 62)), none, none, none]) (by decide +kernel) (fun _ => rfl) (fun _ => Nat.le_of_ble_eq_true rfl) (fun Γ hl hC hR hk => ?_)
  subst hl
  replace hC : CX Γ cX10_isFine RX10 LAY 2 4 := hC
  dsimp only [M_isFine] at hf
  refine GX_iconst hC (bI true) dX10_isFine_0 rfl ?_
  refine GX_istore_n hC [some (.ref (gad Γ 62)), some (.int (bI true)), none, none] dX10_isFine_1 (by decide) rfl rfl ?_
  refine GX_iconst hC 0 dX10_isFine_2 rfl ?_
  refine GX_istore_n hC [some (.ref (gad Γ 62)), some (.int (bI true)), some (.int 0), none] dX10_isFine_3 (by decide) rfl rfl ?_
  obtain ⟨o2, e3, h4⟩ := ob hf
  suffices hJ5 : ∀ (fine8 : Bool), fine8 = o2 → GX Γ LAY 0 0 [some (.ref (gad Γ 62)), some (.int (bI fine8)), none, none] [] m1 50 by
    refine lp_walk (P := fun s => GX Γ LAY 0 0 [some (.ref (gad Γ 62)), some (.int (bI s.1)), some (.int s.2), none] [] m1 4) (fun s x hx5 hI5 hO5 => ?_) _ _ e3
    obtain ⟨fine6, a7⟩ := s
    show GX Γ LAY 0 0 [some (.ref (gad Γ 62)), some (.int (bI fine6)), some (.int a7), none] [] m1 4
    dsimp only [M_isFine_s1] at hx5
    refine GX_iload_n hC dX10_isFine_4 rfl ?_
    refine GX_aload_n hC dX10_isFine_5 rfl ?_
    refine GX_getI hC fkX10_103 ol_62 rfl dX10_isFine_6 ?_
    refine GX_icmp_ge_N hC 50 dX10_isFine_9 (by decide) (fun q => ?_) (fun q => ?_)
    · skip
      have h9 := ifP q hx5
      refine GX_iconst hC 0 dX10_isFine_12 rfl ?_
      refine GX_istore_n hC [some (.ref (gad Γ 62)), some (.int (bI fine6)), some (.int a7), some (.int 0)] dX10_isFine_13 (by decide) rfl rfl ?_
      obtain ⟨o10, e11, h12⟩ := ob h9
      suffices hJ13 : ∀ (fine16 : Bool), fine16 = o10 → GX Γ LAY 0 0 [some (.ref (gad Γ 62)), some (.int (bI fine16)), some (.int a7), none] [] m1 44 by
        refine lp_walk (P := fun s => GX Γ LAY 0 0 [some (.ref (gad Γ 62)), some (.int (bI s.1)), some (.int a7), some (.int s.2)] [] m1 14) (fun s x hx13 hI13 hO13 => ?_) _ _ e11
        obtain ⟨fine14, b15⟩ := s
        show GX Γ LAY 0 0 [some (.ref (gad Γ 62)), some (.int (bI fine14)), some (.int a7), some (.int b15)] [] m1 14
        dsimp only [M_isFine_s2] at hx13
        refine GX_iload_n hC dX10_isFine_14 rfl ?_
        refine GX_iload_n hC dX10_isFine_15 rfl ?_
        refine GX_icmp_ge_N hC 44 dX10_isFine_16 (by decide) (fun q => ?_) (fun q => ?_)
        · skip
          have h17 := ifP q hx13
          obtain ⟨c18, e19, h20⟩ := ob h17
          suffices hJ21 : GX Γ LAY 0 0 [some (.ref (gad Γ 62)), some (.int (bI fine14)), some (.int a7), some (.int b15)] [.int (bI c18)] m1 37 by
            have hc22 : true = c18 → GX Γ LAY 0 0 [some (.ref (gad Γ 62)), some (.int (bI fine14)), some (.int a7), some (.int b15)] [] m1 32 := by
              intro q
              subst q
              refine GX_iconst hC (bI true) dX10_isFine_32 rfl ?_
              refine GX_goto hC 37 dX10_isFine_33 (by decide) ?_
              exact hJ21
            have hc23 : false = c18 → GX Γ LAY 0 0 [some (.ref (gad Γ 62)), some (.int (bI fine14)), some (.int a7), some (.int b15)] [] m1 36 := by
              intro q
              subst q
              refine GX_iconst hC (bI false) dX10_isFine_36 rfl ?_
              exact hJ21
            refine GX_iload_n hC dX10_isFine_19 rfl ?_
            refine GX_ifb_eq hC 36 dX10_isFine_20 (by decide) (fun q => ?_) (fun q => ?_)
            · skip
              have h24 := ifT q e19
              refine GX_aload_n hC dX10_isFine_23 rfl ?_
              refine GX_iload_n hC dX10_isFine_24 rfl ?_
              refine GX_iload_n hC dX10_isFine_25 rfl ?_
              obtain ⟨b25, e26, h27⟩ := ob h24
              refine GX_callV_i (st := []) hC (C_M_areApart e26) okX10_areApart lkX10_126 ol_62 rfl rfl (Nat.le_of_ble_eq_true rfl) (Nat.le_of_ble_eq_true rfl) hk rfl (Nat.le_of_ble_eq_true rfl) dX10_isFine_26 ?_
              refine GX_ifb_eq hC 36 dX10_isFine_29 (by decide) (fun q => ?_) (fun q => ?_)
              · skip
                exact hc22 (cbT q h27)
              · skip
                exact hc23 (cbF q h27)
            · skip
              have h28 := ifF q e19
              exact hc23 (oi h28)
          refine GX_istore_n hC [some (.ref (gad Γ 62)), some (.int (bI c18)), some (.int a7), some (.int b15)] dX10_isFine_37 (by decide) rfl rfl ?_
          obtain ⟨i29, e30, h31⟩ := ob h20
          refine GX_iinc hC i29 [some (.ref (gad Γ 62)), some (.int (bI c18)), some (.int a7), some (.int i29)] dX10_isFine_38 rfl (oi e30) (by decide) rfl rfl ?_
          refine GX_goto hC 14 dX10_isFine_41 (by decide) ?_
          exact hI13 _ (oi h31).symm
        · skip
          have h32 := ifN q hx13
          exact GX.le (hJ13 _ (hO13 _ (oi h32).symm)) ⟨rfl, ⟨rfl, ⟨rfl, trivial⟩⟩⟩
      intro fine16 q33
      subst q33
      obtain ⟨i34, e35, h36⟩ := ob h12
      refine GX_iinc hC i34 [some (.ref (gad Γ 62)), some (.int (bI fine16)), some (.int i34), none] dX10_isFine_44 rfl (oi e35) (by decide) rfl rfl ?_
      refine GX_goto hC 4 dX10_isFine_47 (by decide) ?_
      exact hI5 _ (oi h36).symm
    · skip
      have h37 := ifN q hx5
      exact GX.le (hJ5 _ (hO5 _ (oi h37).symm)) ⟨rfl, ⟨rfl, trivial⟩⟩
  intro fine8 q38
  subst q38
  refine GX_iload_n hC dX10_isFine_50 rfl ?_
  exact GX_zretR hC fine8 hR dX10_isFine_51 (oi h4)
set_option maxRecDepth 100000 in
set_option maxHeartbeats 4000000 in
theorem C_M_worthOf {l : Launch} {person1 : Int32} {m2 : MI} {r0 : Int32}  (hf : M_worthOf person1 m2 = some r0) : Cn l yX10_worthOf cX10_worthOf 4 (some .int) 0 LAY (fun ad => .ref (ad 62) :: [.int person1]) m2 (fun _ => some (.int r0)) m2 := by
  refine Cn.of (fun ad => [some (.ref (ad 62)), some (.int person1), none, none]) (by decide +kernel) (fun _ => rfl) (fun _ => Nat.le_of_ble_eq_true rfl) (fun Γ hl hC hR hk => ?_)
  subst hl
  replace hC : CX Γ cX10_worthOf RX10 LAY 0 4 := hC
  dsimp only [M_worthOf] at hf
  refine GX_iconst hC 0 dX10_worthOf_0 rfl ?_
  refine GX_istore_n hC [some (.ref (gad Γ 62)), some (.int person1), some (.int 0), none] dX10_worthOf_1 (by decide) rfl rfl ?_
  refine GX_iconst hC 0 dX10_worthOf_2 rfl ?_
  refine GX_istore_n hC [some (.ref (gad Γ 62)), some (.int person1), some (.int 0), some (.int 0)] dX10_worthOf_3 (by decide) rfl rfl ?_
  obtain ⟨o3, e4, h5⟩ := ob hf
  suffices hJ6 : ∀ (sum9 : Int32), sum9 = o3 → GX Γ LAY 0 0 [some (.ref (gad Γ 62)), some (.int person1), some (.int sum9), none] [] m2 48 by
    refine lp_walk (P := fun s => GX Γ LAY 0 0 [some (.ref (gad Γ 62)), some (.int person1), some (.int s.1), some (.int s.2)] [] m2 4) (fun s x hx6 hI6 hO6 => ?_) _ _ e4
    obtain ⟨sum7, f8⟩ := s
    show GX Γ LAY 0 0 [some (.ref (gad Γ 62)), some (.int person1), some (.int sum7), some (.int f8)] [] m2 4
    dsimp only [M_worthOf_s1] at hx6
    refine GX_iload_n hC dX10_worthOf_4 rfl ?_
    refine GX_aload_n hC dX10_worthOf_5 rfl ?_
    refine GX_getI hC fkX10_103 ol_62 rfl dX10_worthOf_6 ?_
    refine GX_icmp_ge_N hC 48 dX10_worthOf_9 (by decide) (fun q => ?_) (fun q => ?_)
    · skip
      have h10 := ifP q hx6
      refine GX_iload_n hC dX10_worthOf_12 rfl ?_
      obtain ⟨x11, e12, h13⟩ := ob h10
      suffices hJ14 : GX Γ LAY 0 0 [some (.ref (gad Γ 62)), some (.int person1), some (.int sum7), some (.int f8)] [.int x11, .int sum7] m2 40 by
        refine GX_aload_n hC dX10_worthOf_13 rfl ?_
        refine GX_getR hC fkX10_28 ol_62 rfl dX10_worthOf_14 ?_
        refine GX_iload_n hC dX10_worthOf_17 rfl ?_
        obtain ⟨x15, e16, h17⟩ := ob e12
        refine GX_ldA hC e16 al_69 dX10_worthOf_18 ?_
        refine GX_iload_n hC dX10_worthOf_19 rfl ?_
        refine GX_iconst hC 1 dX10_worthOf_20 rfl ?_
        refine GX_iadd hC dX10_worthOf_21 ?_
        refine GX_icmp_ne_N hC 39 dX10_worthOf_22 (by decide) (fun q => ?_) (fun q => ?_)
        · skip
          have h18 := ifP q h17
          refine GX_aload_n hC dX10_worthOf_25 rfl ?_
          refine GX_getR hC fkX10_22 ol_62 rfl dX10_worthOf_26 ?_
          refine GX_bipush hC 6 dX10_worthOf_29 rfl ?_
          refine GX_iload_n hC dX10_worthOf_31 rfl ?_
          refine GX_imul hC dX10_worthOf_32 ?_
          refine GX_iload_n hC dX10_worthOf_33 rfl ?_
          refine GX_iadd hC dX10_worthOf_34 ?_
          obtain ⟨x19, e20, h21⟩ := ob h18
          refine GX_ldA hC e20 al_67 dX10_worthOf_35 ?_
          refine GX_goto hC 40 dX10_worthOf_36 (by decide) ?_
          exact GX_nm (oi h21) hJ14
        · skip
          have h22 := ifN q h17
          refine GX_iconst hC 0 dX10_worthOf_39 rfl ?_
          exact GX_nm (oi h22) hJ14
      refine GX_iadd hC dX10_worthOf_40 ?_
      obtain ⟨sum23, e24, h25⟩ := ob h13
      refine GX_nm (oi e24) ?_
      refine GX_istore_n hC [some (.ref (gad Γ 62)), some (.int person1), some (.int sum23), some (.int f8)] dX10_worthOf_41 (by decide) rfl rfl ?_
      obtain ⟨i26, e27, h28⟩ := ob h25
      refine GX_iinc hC i26 [some (.ref (gad Γ 62)), some (.int person1), some (.int sum23), some (.int i26)] dX10_worthOf_42 rfl (oi e27) (by decide) rfl rfl ?_
      refine GX_goto hC 4 dX10_worthOf_45 (by decide) ?_
      exact hI6 _ (oi h28).symm
    · skip
      have h29 := ifN q hx6
      exact GX.le (hJ6 _ (hO6 _ (oi h29).symm)) ⟨rfl, ⟨rfl, ⟨rfl, trivial⟩⟩⟩
  intro sum9 q30
  subst q30
  refine GX_iload_n hC dX10_worthOf_48 rfl ?_
  exact GX_iretR hC hR dX10_worthOf_49 (oi h5)
set_option maxRecDepth 100000 in
set_option maxHeartbeats 4000000 in
theorem C_M_worthOfAll {l : Launch} {m1 : MI} {r0 : Int32}  (hf : M_worthOfAll m1 = some r0) : Cn l yX10_worthOfAll cX10_worthOfAll 3 (some .int) 1 LAY (fun ad => .ref (ad 62) :: []) m1 (fun _ => some (.int r0)) m1 := by
  refine Cn.of (fun ad => [some (.ref (ad 62)), none, none]) (by decide +kernel) (fun _ => rfl) (fun _ => Nat.le_of_ble_eq_true rfl) (fun Γ hl hC hR hk => ?_)
  subst hl
  replace hC : CX Γ cX10_worthOfAll RX10 LAY 1 3 := hC
  dsimp only [M_worthOfAll] at hf
  refine GX_iconst hC 0 dX10_worthOfAll_0 rfl ?_
  refine GX_istore_n hC [some (.ref (gad Γ 62)), some (.int 0), none] dX10_worthOfAll_1 (by decide) rfl rfl ?_
  refine GX_iconst hC 0 dX10_worthOfAll_2 rfl ?_
  refine GX_istore_n hC [some (.ref (gad Γ 62)), some (.int 0), some (.int 0)] dX10_worthOfAll_3 (by decide) rfl rfl ?_
  obtain ⟨o2, e3, h4⟩ := ob hf
  suffices hJ5 : ∀ (sum8 : Int32), sum8 = o2 → GX Γ LAY 0 0 [some (.ref (gad Γ 62)), some (.int sum8), none] [] m1 26 by
    refine lp_walk (P := fun s => GX Γ LAY 0 0 [some (.ref (gad Γ 62)), some (.int s.1), some (.int s.2)] [] m1 4) (fun s x hx5 hI5 hO5 => ?_) _ _ e3
    obtain ⟨sum6, p7⟩ := s
    show GX Γ LAY 0 0 [some (.ref (gad Γ 62)), some (.int sum6), some (.int p7)] [] m1 4
    dsimp only [M_worthOfAll_s1] at hx5
    refine GX_iload_n hC dX10_worthOfAll_4 rfl ?_
    refine GX_aload_n hC dX10_worthOfAll_5 rfl ?_
    refine GX_getI hC fkX10_110 ol_62 rfl dX10_worthOfAll_6 ?_
    refine GX_icmp_ge_N hC 26 dX10_worthOfAll_9 (by decide) (fun q => ?_) (fun q => ?_)
    · skip
      have h9 := ifP q hx5
      refine GX_iload_n hC dX10_worthOfAll_12 rfl ?_
      refine GX_aload_n hC dX10_worthOfAll_13 rfl ?_
      refine GX_iload_n hC dX10_worthOfAll_14 rfl ?_
      obtain ⟨r10, e11, h12⟩ := ob h9
      refine GX_callV_i (st := [.int sum6]) hC (C_M_worthOf e11) okX10_worthOf lkX10_129 ol_62 rfl rfl (Nat.le_of_ble_eq_true rfl) (Nat.le_of_ble_eq_true rfl) hk rfl (Nat.le_of_ble_eq_true rfl) dX10_worthOfAll_15 ?_
      refine GX_iadd hC dX10_worthOfAll_18 ?_
      obtain ⟨sum13, e14, h15⟩ := ob h12
      refine GX_nm (oi e14) ?_
      refine GX_istore_n hC [some (.ref (gad Γ 62)), some (.int sum13), some (.int p7)] dX10_worthOfAll_19 (by decide) rfl rfl ?_
      obtain ⟨i16, e17, h18⟩ := ob h15
      refine GX_iinc hC i16 [some (.ref (gad Γ 62)), some (.int sum13), some (.int i16)] dX10_worthOfAll_20 rfl (oi e17) (by decide) rfl rfl ?_
      refine GX_goto hC 4 dX10_worthOfAll_23 (by decide) ?_
      exact hI5 _ (oi h18).symm
    · skip
      have h19 := ifN q hx5
      exact GX.le (hJ5 _ (hO5 _ (oi h19).symm)) ⟨rfl, ⟨rfl, trivial⟩⟩
  intro sum8 q20
  subst q20
  refine GX_iload_n hC dX10_worthOfAll_26 rfl ?_
  exact GX_iretR hC hR dX10_worthOfAll_27 (oi h4)
set_option maxRecDepth 100000 in
set_option maxHeartbeats 4000000 in
theorem C_M_here {l : Launch} {m1 : MI} {r0 : Int32}  (hf : M_here m1 = some r0) : Cn l yX10_here cX10_here 1 (some .int) 0 LAY (fun ad => .ref (ad 62) :: []) m1 (fun _ => some (.int r0)) m1 := by
  refine Cn.of (fun ad => [some (.ref (ad 62))]) (by decide +kernel) (fun _ => rfl) (fun _ => Nat.le_of_ble_eq_true rfl) (fun Γ hl hC hR hk => ?_)
  subst hl
  replace hC : CX Γ cX10_here RX10 LAY 0 1 := hC
  dsimp only [M_here] at hf
  obtain ⟨x2, e3, h4⟩ := ob hf
  suffices hJ5 : GX Γ LAY 0 0 [some (.ref (gad Γ 62))] [.int x2] m1 34 by
    refine GX_aload_n hC dX10_here_0 rfl ?_
    refine GX_getI hC fkX10_133 ol_62 rfl dX10_here_1 ?_
    refine GX_aload_n hC dX10_here_4 rfl ?_
    refine GX_getI hC fkX10_136 ol_62 rfl dX10_here_5 ?_
    refine GX_icmp_lt_N hC 15 dX10_here_8 (by decide) (fun q => ?_) (fun q => ?_)
    · skip
      have h6 := ifP q e3
      refine GX_iconst hC (-1) dX10_here_11 rfl ?_
      refine GX_goto hC 34 dX10_here_12 (by decide) ?_
      exact GX_nm (oi h6) hJ5
    · skip
      have h7 := ifN q e3
      refine GX_aload_n hC dX10_here_15 rfl ?_
      refine GX_getR hC fkX10_92 ol_62 rfl dX10_here_16 ?_
      refine GX_aload_n hC dX10_here_19 rfl ?_
      refine GX_getI hC fkX10_139 ol_62 rfl dX10_here_20 ?_
      refine GX_aload_n hC dX10_here_23 rfl ?_
      refine GX_getI hC fkX10_133 ol_62 rfl dX10_here_24 ?_
      refine GX_iadd hC dX10_here_27 ?_
      obtain ⟨x8, e9, h10⟩ := ob h7
      refine GX_ldL hC e9 al_90 dX10_here_28 ?_
      refine GX_l2i hC dX10_here_29 ?_
      refine GX_sipush hC 255 dX10_here_30 rfl ?_
      refine GX_iand hC dX10_here_33 ?_
      exact GX_nm (oi h10) hJ5
  exact GX_iretR hC hR dX10_here_34 (oi h4)
set_option maxRecDepth 100000 in
set_option maxHeartbeats 4000000 in
theorem C_M_readDigit {l : Launch} {m1 : MI} {r0 : Int32} {mr : MI}  (hf : M_readDigit m1 = some (r0, mr)) : Cn l yX10_readDigit cX10_readDigit 1 (some .int) 1 LAY (fun ad => .ref (ad 62) :: []) m1 (fun _ => some (.int r0)) mr := by
  refine Cn.of (fun ad => [some (.ref (ad 62))]) (by decide +kernel) (fun _ => rfl) (fun _ => Nat.le_of_ble_eq_true rfl) (fun Γ hl hC hR hk => ?_)
  subst hl
  replace hC : CX Γ cX10_readDigit RX10 LAY 1 1 := hC
  dsimp only [M_readDigit] at hf
  refine GX_aload_n hC dX10_readDigit_0 rfl ?_
  obtain ⟨c2, e3, h4⟩ := ob hf
  suffices hJ5 : GX Γ LAY 0 0 [some (.ref (gad Γ 62))] [.int (bI c2), .ref (gad Γ 62)] m1 30 by
    have hc6 : true = c2 → GX Γ LAY 0 0 [some (.ref (gad Γ 62))] [.ref (gad Γ 62)] m1 25 := by
      intro q
      subst q
      refine GX_iconst hC (bI true) dX10_readDigit_25 rfl ?_
      refine GX_goto hC 30 dX10_readDigit_26 (by decide) ?_
      exact hJ5
    have hc7 : false = c2 → GX Γ LAY 0 0 [some (.ref (gad Γ 62))] [.ref (gad Γ 62)] m1 29 := by
      intro q
      subst q
      refine GX_iconst hC (bI false) dX10_readDigit_29 rfl ?_
      exact hJ5
    refine GX_aload_n hC dX10_readDigit_1 rfl ?_
    obtain ⟨b8, e9, h10⟩ := ob e3
    refine GX_ldZ hC e9 fkX10_142 ol_62 rfl dX10_readDigit_2 ?_
    refine GX_ifb_ne hC 25 dX10_readDigit_5 (by decide) (fun q => ?_) (fun q => ?_)
    · skip
      have h11 := ifT q h10
      exact hc6 (oi h11)
    · skip
      have h12 := ifF q h10
      refine GX_aload_n hC dX10_readDigit_8 rfl ?_
      obtain ⟨r13, e14, h15⟩ := ob h12
      refine GX_callV_i (st := [.ref (gad Γ 62)]) hC (C_M_here e14) okX10_here lkX10_146 ol_62 rfl rfl (Nat.le_of_ble_eq_true rfl) (Nat.le_of_ble_eq_true rfl) hk rfl (Nat.le_of_ble_eq_true rfl) dX10_readDigit_9 ?_
      refine GX_i2l hC dX10_readDigit_12 ?_
      refine GX_ldc2 hC 48 kcX10_150 dX10_readDigit_13 ?_
      refine GX_ldc2 hC 57 kcX10_152 dX10_readDigit_16 ?_
      obtain ⟨b16, e17, h18⟩ := ob h15
      refine GX_callS_i (st := [.ref (gad Γ 62)]) hC (C_M_in e17) okX10_in lkX10_106 rfl (Nat.le_of_ble_eq_true rfl) (Nat.le_of_ble_eq_true rfl) hk rfl (Nat.le_of_ble_eq_true rfl) dX10_readDigit_19 ?_
      refine GX_ifb_ne hC 29 dX10_readDigit_22 (by decide) (fun q => ?_) (fun q => ?_)
      · skip
        exact hc7 (cbnT q h18)
      · skip
        exact hc6 (cbnF q h18)
  obtain ⟨m19, e20, h21⟩ := ob h4
  refine GX_stZ hC e20 fkX10_142 ftX10_15 ol_62 rfl dX10_readDigit_30 ?_
  refine GX_aload_n hC dX10_readDigit_33 rfl ?_
  obtain ⟨b22, e23, h24⟩ := ob h21
  refine GX_ldZ hC e23 fkX10_142 ol_62 rfl dX10_readDigit_34 ?_
  refine GX_ifb_eq hC 42 dX10_readDigit_37 (by decide) (fun q => ?_) (fun q => ?_)
  · skip
    have h25 := ifT q h24
    refine GX_iconst hC 0 dX10_readDigit_40 rfl ?_
    exact GX_iretW hC hR dX10_readDigit_41 (oi h25)
  · skip
    have h26 := ifF q h24
    refine GX_aload_n hC dX10_readDigit_42 rfl ?_
    refine GX_dup hC dX10_readDigit_43 rfl ?_
    refine GX_getI hC fkX10_133 ol_62 rfl dX10_readDigit_44 ?_
    refine GX_iconst hC 1 dX10_readDigit_47 rfl ?_
    refine GX_iadd hC dX10_readDigit_48 ?_
    obtain ⟨m27, e28, h29⟩ := ob h26
    refine GX_stF hC e28 fkX10_133 ftX10_14 ol_62 rfl dX10_readDigit_49 ?_
    refine GX_aload_n hC dX10_readDigit_52 rfl ?_
    refine GX_getR hC fkX10_92 ol_62 rfl dX10_readDigit_53 ?_
    refine GX_aload_n hC dX10_readDigit_56 rfl ?_
    refine GX_getI hC fkX10_139 ol_62 rfl dX10_readDigit_57 ?_
    refine GX_aload_n hC dX10_readDigit_60 rfl ?_
    refine GX_getI hC fkX10_133 ol_62 rfl dX10_readDigit_61 ?_
    refine GX_iadd hC dX10_readDigit_64 ?_
    refine GX_iconst hC 1 dX10_readDigit_65 rfl ?_
    refine GX_isub hC dX10_readDigit_66 ?_
    obtain ⟨x30, e31, h32⟩ := ob h29
    refine GX_ldL hC e31 al_90 dX10_readDigit_67 ?_
    refine GX_l2i hC dX10_readDigit_68 ?_
    refine GX_bipush hC 48 dX10_readDigit_69 rfl ?_
    refine GX_isub hC dX10_readDigit_71 ?_
    exact GX_iretW hC hR dX10_readDigit_72 (oi h32)
set_option maxRecDepth 100000 in
set_option maxHeartbeats 4000000 in
theorem C_M_readNumber {l : Launch} {digits1 : Int32} {m2 : MI} {r0 : Int32} {mr : MI}  (hf : M_readNumber digits1 m2 = some (r0, mr)) : Cn l yX10_readNumber cX10_readNumber 4 (some .int) 2 LAY (fun ad => .ref (ad 62) :: [.int digits1]) m2 (fun _ => some (.int r0)) mr := by
  refine Cn.of (fun ad => [some (.ref (ad 62)), some (.int digits1), none, none]) (by decide +kernel) (fun _ => rfl) (fun _ => Nat.le_of_ble_eq_true rfl) (fun Γ hl hC hR hk => ?_)
  subst hl
  replace hC : CX Γ cX10_readNumber RX10 LAY 2 4 := hC
  dsimp only [M_readNumber] at hf
  refine GX_aload_n hC dX10_readNumber_0 rfl ?_
  obtain ⟨⟨r3, m4⟩, e5, h6⟩ := ob hf
  refine GX_callV_i (st := []) hC (C_M_readDigit e5) okX10_readDigit lkX10_154 ol_62 rfl rfl (Nat.le_of_ble_eq_true rfl) (Nat.le_of_ble_eq_true rfl) hk rfl (Nat.le_of_ble_eq_true rfl) dX10_readNumber_1 ?_
  refine GX_istore_n hC [some (.ref (gad Γ 62)), some (.int digits1), some (.int r3), none] dX10_readNumber_4 (by decide) rfl rfl ?_
  refine GX_iconst hC 1 dX10_readNumber_5 rfl ?_
  refine GX_istore_n hC [some (.ref (gad Γ 62)), some (.int digits1), some (.int r3), some (.int 1)] dX10_readNumber_6 (by decide) rfl rfl ?_
  obtain ⟨o7, e8, h9⟩ := ob h6
  suffices hJ10 : ∀ (v14 : Int32) (m15 : MI), (v14, m15) = o7 → GX Γ LAY 0 0 [some (.ref (gad Γ 62)), some (.int digits1), some (.int v14), none] [] m15 69 by
    refine lp_walk (P := fun s => GX Γ LAY 0 0 [some (.ref (gad Γ 62)), some (.int digits1), some (.int s.1), some (.int s.2.1)] [] s.2.2 7) (fun s x hx10 hI10 hO10 => ?_) _ _ e8
    obtain ⟨v11, n12, m13⟩ := s
    show GX Γ LAY 0 0 [some (.ref (gad Γ 62)), some (.int digits1), some (.int v11), some (.int n12)] [] m13 7
    dsimp only [M_readNumber_s1] at hx10
    obtain ⟨c16, e17, h18⟩ := ob hx10
    have hc19 : true = c16 → GX Γ LAY 0 0 [some (.ref (gad Γ 62)), some (.int digits1), some (.int v11), some (.int n12)] [] m13 40 := by
      intro q
      have h20 := ifT q.symm h18
      refine GX_bipush hC 10 dX10_readNumber_40 rfl ?_
      refine GX_iload_n hC dX10_readNumber_42 rfl ?_
      refine GX_imul hC dX10_readNumber_43 ?_
      refine GX_aload_n hC dX10_readNumber_44 rfl ?_
      obtain ⟨r21, e22, h23⟩ := ob h20
      refine GX_callV_i (st := [.int (10 * v11)]) hC (C_M_here e22) okX10_here lkX10_146 ol_62 rfl rfl (Nat.le_of_ble_eq_true rfl) (Nat.le_of_ble_eq_true rfl) hk rfl (Nat.le_of_ble_eq_true rfl) dX10_readNumber_45 ?_
      refine GX_iadd hC dX10_readNumber_48 ?_
      refine GX_bipush hC 48 dX10_readNumber_49 rfl ?_
      refine GX_isub hC dX10_readNumber_51 ?_
      obtain ⟨v24, e25, h26⟩ := ob h23
      refine GX_nm (oi e25) ?_
      refine GX_istore_n hC [some (.ref (gad Γ 62)), some (.int digits1), some (.int v24), some (.int n12)] dX10_readNumber_52 (by decide) rfl rfl ?_
      refine GX_aload_n hC dX10_readNumber_53 rfl ?_
      refine GX_dup hC dX10_readNumber_54 rfl ?_
      refine GX_getI hC fkX10_133 ol_62 rfl dX10_readNumber_55 ?_
      refine GX_iconst hC 1 dX10_readNumber_58 rfl ?_
      refine GX_iadd hC dX10_readNumber_59 ?_
      obtain ⟨m27, e28, h29⟩ := ob h26
      refine GX_stF hC e28 fkX10_133 ftX10_14 ol_62 rfl dX10_readNumber_60 ?_
      obtain ⟨i30, e31, h32⟩ := ob h29
      refine GX_iinc hC i30 [some (.ref (gad Γ 62)), some (.int digits1), some (.int v24), some (.int i30)] dX10_readNumber_63 rfl (oi e31) (by decide) rfl rfl ?_
      refine GX_goto hC 7 dX10_readNumber_66 (by decide) ?_
      exact hI10 _ (oi h32).symm
    have hc33 : false = c16 → GX Γ LAY 0 0 [some (.ref (gad Γ 62)), some (.int digits1), some (.int v11), some (.int n12)] [] m13 69 := by
      intro q
      have h34 := ifF q.symm h18
      exact GX.le (hJ10 _ _ (hO10 _ (oi h34).symm)) ⟨rfl, ⟨rfl, ⟨rfl, trivial⟩⟩⟩
    refine GX_iload_n hC dX10_readNumber_7 rfl ?_
    refine GX_iload_n hC dX10_readNumber_8 rfl ?_
    refine GX_icmp_ge_N hC 69 dX10_readNumber_9 (by decide) (fun q => ?_) (fun q => ?_)
    · skip
      have h35 := ifP q e17
      refine GX_iload_n hC dX10_readNumber_12 rfl ?_
      refine GX_if_le_N hC 69 dX10_readNumber_13 (by decide) (fun q => ?_) (fun q => ?_)
      · skip
        have h36 := ifP q h35
        refine GX_aload_n hC dX10_readNumber_16 rfl ?_
        obtain ⟨b37, e38, h39⟩ := ob h36
        refine GX_ldZ hC e38 fkX10_142 ol_62 rfl dX10_readNumber_17 ?_
        refine GX_ifb_ne hC 69 dX10_readNumber_20 (by decide) (fun q => ?_) (fun q => ?_)
        · skip
          have h40 := ifT q h39
          exact hc33 (oi h40)
        · skip
          have h41 := ifF q h39
          refine GX_aload_n hC dX10_readNumber_23 rfl ?_
          obtain ⟨r42, e43, h44⟩ := ob h41
          refine GX_callV_i (st := []) hC (C_M_here e43) okX10_here lkX10_146 ol_62 rfl rfl (Nat.le_of_ble_eq_true rfl) (Nat.le_of_ble_eq_true rfl) hk rfl (Nat.le_of_ble_eq_true rfl) dX10_readNumber_24 ?_
          refine GX_i2l hC dX10_readNumber_27 ?_
          refine GX_ldc2 hC 48 kcX10_150 dX10_readNumber_28 ?_
          refine GX_ldc2 hC 57 kcX10_152 dX10_readNumber_31 ?_
          obtain ⟨b45, e46, h47⟩ := ob h44
          refine GX_callS_i (st := []) hC (C_M_in e46) okX10_in lkX10_106 rfl (Nat.le_of_ble_eq_true rfl) (Nat.le_of_ble_eq_true rfl) hk rfl (Nat.le_of_ble_eq_true rfl) dX10_readNumber_34 ?_
          refine GX_ifb_eq hC 69 dX10_readNumber_37 (by decide) (fun q => ?_) (fun q => ?_)
          · skip
            exact hc19 (cbT q h47)
          · skip
            exact hc33 (cbF q h47)
      · skip
        have h48 := ifN q h35
        exact hc33 (oi h48)
    · skip
      have h49 := ifN q e17
      exact hc33 (oi h49)
  intro v14 m15 q50
  subst q50
  refine GX_iload_n hC dX10_readNumber_69 rfl ?_
  exact GX_iretW hC hR dX10_readNumber_70 (oi h9)
set_option maxRecDepth 100000 in
set_option maxHeartbeats 4000000 in
theorem C_M_take {l : Launch} {c1 : Int32} {m2 : MI} {mr : MI}  (hf : M_take c1 m2 = some mr) : Cn l yX10_take cX10_take 2 none 1 LAY (fun ad => .ref (ad 62) :: [.int c1]) m2 (fun _ => none) mr := by
  refine Cn.of (fun ad => [some (.ref (ad 62)), some (.int c1)]) (by decide +kernel) (fun _ => rfl) (fun _ => Nat.le_of_ble_eq_true rfl) (fun Γ hl hC hR hk => ?_)
  subst hl
  replace hC : CX Γ cX10_take RX10 LAY 1 2 := hC
  dsimp only [M_take] at hf
  refine GX_aload_n hC dX10_take_0 rfl ?_
  obtain ⟨c3, e4, h5⟩ := ob hf
  suffices hJ6 : GX Γ LAY 0 0 [some (.ref (gad Γ 62)), some (.int c1)] [.int (bI c3), .ref (gad Γ 62)] m2 21 by
    have hc7 : true = c3 → GX Γ LAY 0 0 [some (.ref (gad Γ 62)), some (.int c1)] [.ref (gad Γ 62)] m2 16 := by
      intro q
      subst q
      refine GX_iconst hC (bI true) dX10_take_16 rfl ?_
      refine GX_goto hC 21 dX10_take_17 (by decide) ?_
      exact hJ6
    have hc8 : false = c3 → GX Γ LAY 0 0 [some (.ref (gad Γ 62)), some (.int c1)] [.ref (gad Γ 62)] m2 20 := by
      intro q
      subst q
      refine GX_iconst hC (bI false) dX10_take_20 rfl ?_
      exact hJ6
    refine GX_aload_n hC dX10_take_1 rfl ?_
    obtain ⟨b9, e10, h11⟩ := ob e4
    refine GX_ldZ hC e10 fkX10_142 ol_62 rfl dX10_take_2 ?_
    refine GX_ifb_ne hC 16 dX10_take_5 (by decide) (fun q => ?_) (fun q => ?_)
    · skip
      have h12 := ifT q h11
      exact hc7 (oi h12)
    · skip
      have h13 := ifF q h11
      refine GX_aload_n hC dX10_take_8 rfl ?_
      obtain ⟨r14, e15, h16⟩ := ob h13
      refine GX_callV_i (st := [.ref (gad Γ 62)]) hC (C_M_here e15) okX10_here lkX10_146 ol_62 rfl rfl (Nat.le_of_ble_eq_true rfl) (Nat.le_of_ble_eq_true rfl) hk rfl (Nat.le_of_ble_eq_true rfl) dX10_take_9 ?_
      refine GX_iload_n hC dX10_take_12 rfl ?_
      refine GX_icmp_eq_N hC 20 dX10_take_13 (by decide) (fun q => ?_) (fun q => ?_)
      · skip
        exact hc7 (cdT q h16)
      · skip
        exact hc8 (cdF q h16)
  obtain ⟨m17, e18, h19⟩ := ob h5
  refine GX_stZ hC e18 fkX10_142 ftX10_15 ol_62 rfl dX10_take_21 ?_
  refine GX_aload_n hC dX10_take_24 rfl ?_
  refine GX_dup hC dX10_take_25 rfl ?_
  refine GX_getI hC fkX10_133 ol_62 rfl dX10_take_26 ?_
  obtain ⟨x20, e21, h22⟩ := ob h19
  suffices hJ23 : GX Γ LAY 0 0 [some (.ref (gad Γ 62)), some (.int c1)] [.int x20, .int (m17.1 62 14), .ref (gad Γ 62)] m17 41 by
    refine GX_aload_n hC dX10_take_29 rfl ?_
    obtain ⟨b24, e25, h26⟩ := ob e21
    refine GX_ldZ hC e25 fkX10_142 ol_62 rfl dX10_take_30 ?_
    refine GX_ifb_eq hC 40 dX10_take_33 (by decide) (fun q => ?_) (fun q => ?_)
    · skip
      have h27 := ifT q h26
      refine GX_iconst hC 0 dX10_take_36 rfl ?_
      refine GX_goto hC 41 dX10_take_37 (by decide) ?_
      exact GX_nm (oi h27) hJ23
    · skip
      have h28 := ifF q h26
      refine GX_iconst hC 1 dX10_take_40 rfl ?_
      exact GX_nm (oi h28) hJ23
  refine GX_iadd hC dX10_take_41 ?_
  obtain ⟨m29, e30, h31⟩ := ob h22
  refine GX_stF hC e30 fkX10_133 ftX10_14 ol_62 rfl dX10_take_42 ?_
  exact GX_vretW hC hR dX10_take_45 (oi h31)
set_option maxRecDepth 100000 in
set_option maxHeartbeats 4000000 in
theorem C_M_readRest {l : Launch} {k1 : Int32} {c2 : Int32} {m3 : MI} {mr : MI}  (hf : M_readRest k1 c2 m3 = some mr) : Cn l yX10_readRest cX10_readRest 3 none 3 LAY (fun ad => .ref (ad 62) :: [.int k1, .int c2]) m3 (fun _ => none) mr := by
  refine Cn.of (fun ad => [some (.ref (ad 62)), some (.int k1), some (.int c2)]) (by decide +kernel) (fun _ => rfl) (fun _ => Nat.le_of_ble_eq_true rfl) (fun Γ hl hC hR hk => ?_)
  subst hl
  replace hC : CX Γ cX10_readRest RX10 LAY 3 3 := hC
  dsimp only [M_readRest] at hf
  refine GX_iload_n hC dX10_readRest_0 rfl ?_
  refine GX_bipush hC 112 dX10_readRest_1 rfl ?_
  refine GX_icmp_ne_N hC 61 dX10_readRest_3 (by decide) (fun q => ?_) (fun q => ?_)
  · skip
    have h4 := ifP q hf
    refine GX_aload_n hC dX10_readRest_6 rfl ?_
    refine GX_getR hC fkX10_37 ol_62 rfl dX10_readRest_7 ?_
    refine GX_iload_n hC dX10_readRest_10 rfl ?_
    refine GX_aload_n hC dX10_readRest_11 rfl ?_
    refine GX_iconst hC 3 dX10_readRest_12 rfl ?_
    obtain ⟨⟨r5, m6⟩, e7, h8⟩ := ob h4
    refine GX_callV_i (st := [.int k1, .ref (gad Γ 72)]) hC (C_M_readNumber e7) okX10_readNumber lkX10_157 ol_62 rfl rfl (Nat.le_of_ble_eq_true rfl) (Nat.le_of_ble_eq_true rfl) hk rfl (Nat.le_of_ble_eq_true rfl) dX10_readRest_13 ?_
    obtain ⟨m9, e10, h11⟩ := ob h8
    refine GX_stA hC e10 al_72 dX10_readRest_16 ?_
    refine GX_aload_n hC dX10_readRest_17 rfl ?_
    refine GX_getR hC fkX10_40 ol_62 rfl dX10_readRest_18 ?_
    refine GX_iload_n hC dX10_readRest_21 rfl ?_
    refine GX_iconst hC (-1) dX10_readRest_22 rfl ?_
    obtain ⟨m12, e13, h14⟩ := ob h11
    refine GX_stA hC e13 al_73 dX10_readRest_23 ?_
    obtain ⟨o15, e16, h17⟩ := ob h14
    suffices hJ19 : ∀ (m18 : MI), m18 = o15 → GX Γ LAY 0 0 [some (.ref (gad Γ 62)), some (.int k1), some (.int c2)] [] m18 60 by
      obtain ⟨c20, e21, h22⟩ := ob e16
      have hc23 : true = c20 → GX Γ LAY 0 0 [some (.ref (gad Γ 62)), some (.int k1), some (.int c2)] [] m12 40 := by
        intro q
        have h24 := ifT q.symm h22
        refine GX_aload_n hC dX10_readRest_40 rfl ?_
        refine GX_dup hC dX10_readRest_41 rfl ?_
        refine GX_getI hC fkX10_133 ol_62 rfl dX10_readRest_42 ?_
        refine GX_iconst hC 1 dX10_readRest_45 rfl ?_
        refine GX_iadd hC dX10_readRest_46 ?_
        obtain ⟨m25, e26, h27⟩ := ob h24
        refine GX_stF hC e26 fkX10_133 ftX10_14 ol_62 rfl dX10_readRest_47 ?_
        refine GX_aload_n hC dX10_readRest_50 rfl ?_
        refine GX_getR hC fkX10_40 ol_62 rfl dX10_readRest_51 ?_
        refine GX_iload_n hC dX10_readRest_54 rfl ?_
        refine GX_aload_n hC dX10_readRest_55 rfl ?_
        obtain ⟨⟨r28, m29⟩, e30, h31⟩ := ob h27
        refine GX_callV_i (st := [.int k1, .ref (gad Γ 73)]) hC (C_M_readDigit e30) okX10_readDigit lkX10_154 ol_62 rfl rfl (Nat.le_of_ble_eq_true rfl) (Nat.le_of_ble_eq_true rfl) hk rfl (Nat.le_of_ble_eq_true rfl) dX10_readRest_56 ?_
        obtain ⟨m32, e33, h34⟩ := ob h31
        refine GX_stA hC e33 al_73 dX10_readRest_59 ?_
        exact (hJ19 _ (oi h34))
      have hc35 : false = c20 → GX Γ LAY 0 0 [some (.ref (gad Γ 62)), some (.int k1), some (.int c2)] [] m12 60 := by
        intro q
        have h36 := ifF q.symm h22
        exact (hJ19 _ (oi h36))
      refine GX_aload_n hC dX10_readRest_24 rfl ?_
      obtain ⟨b37, e38, h39⟩ := ob e21
      refine GX_ldZ hC e38 fkX10_142 ol_62 rfl dX10_readRest_25 ?_
      refine GX_ifb_ne hC 60 dX10_readRest_28 (by decide) (fun q => ?_) (fun q => ?_)
      · skip
        have h40 := ifT q h39
        exact hc35 (oi h40)
      · skip
        have h41 := ifF q h39
        refine GX_aload_n hC dX10_readRest_31 rfl ?_
        obtain ⟨r42, e43, h44⟩ := ob h41
        refine GX_callV_i (st := []) hC (C_M_here e43) okX10_here lkX10_146 ol_62 rfl rfl (Nat.le_of_ble_eq_true rfl) (Nat.le_of_ble_eq_true rfl) hk rfl (Nat.le_of_ble_eq_true rfl) dX10_readRest_32 ?_
        refine GX_bipush hC 107 dX10_readRest_35 rfl ?_
        refine GX_icmp_ne_N hC 60 dX10_readRest_37 (by decide) (fun q => ?_) (fun q => ?_)
        · skip
          exact hc23 (cdT q h44)
        · skip
          exact hc35 (cdF q h44)
    intro m18 q45
    subst q45
    exact GX_vretW hC hR dX10_readRest_60 (oi h17)
  · skip
    have h46 := ifN q hf
    refine GX_aload_n hC dX10_readRest_61 rfl ?_
    refine GX_getR hC fkX10_37 ol_62 rfl dX10_readRest_62 ?_
    refine GX_iload_n hC dX10_readRest_65 rfl ?_
    refine GX_aload_n hC dX10_readRest_66 rfl ?_
    obtain ⟨⟨r47, m48⟩, e49, h50⟩ := ob h46
    refine GX_callV_i (st := [.int k1, .ref (gad Γ 72)]) hC (C_M_readDigit e49) okX10_readDigit lkX10_154 ol_62 rfl rfl (Nat.le_of_ble_eq_true rfl) (Nat.le_of_ble_eq_true rfl) hk rfl (Nat.le_of_ble_eq_true rfl) dX10_readRest_67 ?_
    obtain ⟨m51, e52, h53⟩ := ob h50
    refine GX_stA hC e52 al_72 dX10_readRest_70 ?_
    refine GX_aload_n hC dX10_readRest_71 rfl ?_
    refine GX_getR hC fkX10_40 ol_62 rfl dX10_readRest_72 ?_
    refine GX_iload_n hC dX10_readRest_75 rfl ?_
    obtain ⟨⟨x54, m55⟩, e56, h57⟩ := ob h53
    suffices hJ58 : GX Γ LAY 0 0 [some (.ref (gad Γ 62)), some (.int k1), some (.int c2)] [.int x54, .int k1, .ref (gad Γ 73)] m55 90 by
      refine GX_iload_n hC dX10_readRest_76 rfl ?_
      refine GX_bipush hC 102 dX10_readRest_77 rfl ?_
      refine GX_icmp_ne_N hC 86 dX10_readRest_79 (by decide) (fun q => ?_) (fun q => ?_)
      · skip
        have h59 := ifP q e56
        refine GX_iconst hC 0 dX10_readRest_82 rfl ?_
        refine GX_goto hC 90 dX10_readRest_83 (by decide) ?_
        cases oi h59
        exact hJ58
      · skip
        have h61 := ifN q e56
        refine GX_aload_n hC dX10_readRest_86 rfl ?_
        obtain ⟨⟨r62, m63⟩, e64, h65⟩ := ob h61
        refine GX_callV_i (st := [.int k1, .ref (gad Γ 73)]) hC (C_M_readDigit e64) okX10_readDigit lkX10_154 ol_62 rfl rfl (Nat.le_of_ble_eq_true rfl) (Nat.le_of_ble_eq_true rfl) hk rfl (Nat.le_of_ble_eq_true rfl) dX10_readRest_87 ?_
        cases oi h65
        exact hJ58
    obtain ⟨m67, e68, h69⟩ := ob h57
    refine GX_stA hC e68 al_73 dX10_readRest_90 ?_
    refine GX_aload_n hC dX10_readRest_91 rfl ?_
    refine GX_getR hC fkX10_43 ol_62 rfl dX10_readRest_92 ?_
    refine GX_iload_n hC dX10_readRest_95 rfl ?_
    refine GX_iconst hC 0 dX10_readRest_96 rfl ?_
    obtain ⟨m70, e71, h72⟩ := ob h69
    refine GX_stA hC e71 al_74 dX10_readRest_97 ?_
    obtain ⟨o73, e74, h75⟩ := ob h72
    suffices hJ77 : ∀ (m76 : MI), m76 = o73 → GX Γ LAY 0 0 [some (.ref (gad Γ 62)), some (.int k1), some (.int c2)] [] m76 137 by
      obtain ⟨c78, e79, h80⟩ := ob e74
      have hc81 : true = c78 → GX Γ LAY 0 0 [some (.ref (gad Γ 62)), some (.int k1), some (.int c2)] [] m70 120 := by
        intro q
        have h82 := ifT q.symm h80
        refine GX_aload_n hC dX10_readRest_120 rfl ?_
        refine GX_dup hC dX10_readRest_121 rfl ?_
        refine GX_getI hC fkX10_133 ol_62 rfl dX10_readRest_122 ?_
        refine GX_iconst hC 1 dX10_readRest_125 rfl ?_
        refine GX_iadd hC dX10_readRest_126 ?_
        obtain ⟨m83, e84, h85⟩ := ob h82
        refine GX_stF hC e84 fkX10_133 ftX10_14 ol_62 rfl dX10_readRest_127 ?_
        refine GX_aload_n hC dX10_readRest_130 rfl ?_
        refine GX_getR hC fkX10_43 ol_62 rfl dX10_readRest_131 ?_
        refine GX_iload_n hC dX10_readRest_134 rfl ?_
        refine GX_iconst hC 1 dX10_readRest_135 rfl ?_
        obtain ⟨m86, e87, h88⟩ := ob h85
        refine GX_stA hC e87 al_74 dX10_readRest_136 ?_
        exact (hJ77 _ (oi h88))
      have hc89 : false = c78 → GX Γ LAY 0 0 [some (.ref (gad Γ 62)), some (.int k1), some (.int c2)] [] m70 137 := by
        intro q
        have h90 := ifF q.symm h80
        exact (hJ77 _ (oi h90))
      refine GX_iload_n hC dX10_readRest_98 rfl ?_
      refine GX_bipush hC 104 dX10_readRest_99 rfl ?_
      refine GX_icmp_ne_N hC 137 dX10_readRest_101 (by decide) (fun q => ?_) (fun q => ?_)
      · skip
        have h91 := ifP q e79
        refine GX_aload_n hC dX10_readRest_104 rfl ?_
        obtain ⟨b92, e93, h94⟩ := ob h91
        refine GX_ldZ hC e93 fkX10_142 ol_62 rfl dX10_readRest_105 ?_
        refine GX_ifb_ne hC 137 dX10_readRest_108 (by decide) (fun q => ?_) (fun q => ?_)
        · skip
          have h95 := ifT q h94
          exact hc89 (oi h95)
        · skip
          have h96 := ifF q h94
          refine GX_aload_n hC dX10_readRest_111 rfl ?_
          obtain ⟨r97, e98, h99⟩ := ob h96
          refine GX_callV_i (st := []) hC (C_M_here e98) okX10_here lkX10_146 ol_62 rfl rfl (Nat.le_of_ble_eq_true rfl) (Nat.le_of_ble_eq_true rfl) hk rfl (Nat.le_of_ble_eq_true rfl) dX10_readRest_112 ?_
          refine GX_bipush hC 108 dX10_readRest_115 rfl ?_
          refine GX_icmp_ne_N hC 137 dX10_readRest_117 (by decide) (fun q => ?_) (fun q => ?_)
          · skip
            exact hc81 (cdT q h99)
          · skip
            exact hc89 (cdF q h99)
      · skip
        have h100 := ifN q e79
        exact hc89 (oi h100)
    intro m76 q101
    subst q101
    obtain ⟨o102, e103, h104⟩ := ob h75
    suffices hJ106 : ∀ (m105 : MI), m105 = o102 → GX Γ LAY 0 0 [some (.ref (gad Γ 62)), some (.int k1), some (.int c2)] [] m105 160 by
      refine GX_iload_n hC dX10_readRest_137 rfl ?_
      refine GX_bipush hC 119 dX10_readRest_138 rfl ?_
      refine GX_icmp_ne_N hC 160 dX10_readRest_140 (by decide) (fun q => ?_) (fun q => ?_)
      · skip
        have h107 := ifP q e103
        refine GX_aload_n hC dX10_readRest_143 rfl ?_
        refine GX_bipush hC 32 dX10_readRest_144 rfl ?_
        obtain ⟨m108, e109, h110⟩ := ob h107
        refine GX_callV_v (st := []) hC (C_M_take e109) okX10_take lkX10_160 ol_62 rfl rfl (Nat.le_of_ble_eq_true rfl) (Nat.le_of_ble_eq_true rfl) hk rfl (Nat.le_of_ble_eq_true rfl) dX10_readRest_146 ?_
        refine GX_aload_n hC dX10_readRest_149 rfl ?_
        refine GX_getR hC fkX10_43 ol_62 rfl dX10_readRest_150 ?_
        refine GX_iload_n hC dX10_readRest_153 rfl ?_
        refine GX_aload_n hC dX10_readRest_154 rfl ?_
        refine GX_iconst hC 2 dX10_readRest_155 rfl ?_
        obtain ⟨⟨r111, m112⟩, e113, h114⟩ := ob h110
        refine GX_callV_i (st := [.int k1, .ref (gad Γ 74)]) hC (C_M_readNumber e113) okX10_readNumber lkX10_157 ol_62 rfl rfl (Nat.le_of_ble_eq_true rfl) (Nat.le_of_ble_eq_true rfl) hk rfl (Nat.le_of_ble_eq_true rfl) dX10_readRest_156 ?_
        obtain ⟨m115, e116, h117⟩ := ob h114
        refine GX_stA hC e116 al_74 dX10_readRest_159 ?_
        exact (hJ106 _ (oi h117))
      · skip
        have h118 := ifN q e103
        exact (hJ106 _ (oi h118))
    intro m105 q119
    subst q119
    exact GX_vretW hC hR dX10_readRest_160 (oi h104)
set_option maxRecDepth 100000 in
set_option maxHeartbeats 4000000 in
theorem C_M_readStatement {l : Launch} {m1 : MI} {mr : MI}  (hf : M_readStatement m1 = some mr) : Cn l yX10_readStatement cX10_readStatement 3 none 4 LAY (fun ad => .ref (ad 62) :: []) m1 (fun _ => none) mr := by
  refine Cn.of (fun ad => [some (.ref (ad 62)), none, none]) (by decide +kernel) (fun _ => rfl) (fun _ => Nat.le_of_ble_eq_true rfl) (fun Γ hl hC hR hk => ?_)
  subst hl
  replace hC : CX Γ cX10_readStatement RX10 LAY 4 3 := hC
  dsimp only [M_readStatement] at hf
  refine GX_aload_n hC dX10_readStatement_0 rfl ?_
  refine GX_getI hC fkX10_164 ol_62 rfl dX10_readStatement_1 ?_
  obtain ⟨k2, e3, h4⟩ := ob hf
  refine GX_nm (oi e3) ?_
  refine GX_istore_n hC [some (.ref (gad Γ 62)), some (.int k2), none] dX10_readStatement_4 (by decide) rfl rfl ?_
  refine GX_aload_n hC dX10_readStatement_5 rfl ?_
  obtain ⟨r5, e6, h7⟩ := ob h4
  refine GX_callV_i (st := []) hC (C_M_here e6) okX10_here lkX10_146 ol_62 rfl rfl (Nat.le_of_ble_eq_true rfl) (Nat.le_of_ble_eq_true rfl) hk rfl (Nat.le_of_ble_eq_true rfl) dX10_readStatement_6 ?_
  refine GX_istore_n hC [some (.ref (gad Γ 62)), some (.int k2), some (.int r5)] dX10_readStatement_9 (by decide) rfl rfl ?_
  refine GX_aload_n hC dX10_readStatement_10 rfl ?_
  refine GX_getR hC fkX10_31 ol_62 rfl dX10_readStatement_11 ?_
  refine GX_iload_n hC dX10_readStatement_14 rfl ?_
  refine GX_aload_n hC dX10_readStatement_15 rfl ?_
  refine GX_getI hC fkX10_133 ol_62 rfl dX10_readStatement_16 ?_
  obtain ⟨m8, e9, h10⟩ := ob h7
  refine GX_stA hC e9 al_70 dX10_readStatement_19 ?_
  refine GX_aload_n hC dX10_readStatement_20 rfl ?_
  refine GX_getR hC fkX10_34 ol_62 rfl dX10_readStatement_21 ?_
  refine GX_iload_n hC dX10_readStatement_24 rfl ?_
  refine GX_iload_n hC dX10_readStatement_25 rfl ?_
  obtain ⟨m11, e12, h13⟩ := ob h10
  refine GX_stA hC e12 al_71 dX10_readStatement_26 ?_
  refine GX_aload_n hC dX10_readStatement_27 rfl ?_
  obtain ⟨c14, e15, h16⟩ := ob h13
  suffices hJ17 : GX Γ LAY 0 0 [some (.ref (gad Γ 62)), some (.int k2), some (.int r5)] [.int (bI c14), .ref (gad Γ 62)] m11 82 by
    have hc18 : true = c14 → GX Γ LAY 0 0 [some (.ref (gad Γ 62)), some (.int k2), some (.int r5)] [.ref (gad Γ 62)] m11 77 := by
      intro q
      subst q
      refine GX_iconst hC (bI true) dX10_readStatement_77 rfl ?_
      refine GX_goto hC 82 dX10_readStatement_78 (by decide) ?_
      exact hJ17
    have hc19 : false = c14 → GX Γ LAY 0 0 [some (.ref (gad Γ 62)), some (.int k2), some (.int r5)] [.ref (gad Γ 62)] m11 81 := by
      intro q
      subst q
      refine GX_iconst hC (bI false) dX10_readStatement_81 rfl ?_
      exact hJ17
    refine GX_aload_n hC dX10_readStatement_28 rfl ?_
    obtain ⟨b20, e21, h22⟩ := ob e15
    refine GX_ldZ hC e21 fkX10_142 ol_62 rfl dX10_readStatement_29 ?_
    refine GX_ifb_ne hC 77 dX10_readStatement_32 (by decide) (fun q => ?_) (fun q => ?_)
    · skip
      have h23 := ifT q h22
      exact hc18 (oi h23)
    · skip
      have h24 := ifF q h22
      refine GX_iload_n hC dX10_readStatement_35 rfl ?_
      refine GX_bipush hC 102 dX10_readStatement_36 rfl ?_
      refine GX_icmp_eq_N hC 81 dX10_readStatement_38 (by decide) (fun q => ?_) (fun q => ?_)
      · skip
        have h25 := ifP q h24
        refine GX_iload_n hC dX10_readStatement_41 rfl ?_
        refine GX_bipush hC 104 dX10_readStatement_42 rfl ?_
        refine GX_icmp_eq_N hC 81 dX10_readStatement_44 (by decide) (fun q => ?_) (fun q => ?_)
        · skip
          have h26 := ifP q h25
          refine GX_iload_n hC dX10_readStatement_47 rfl ?_
          refine GX_bipush hC 99 dX10_readStatement_48 rfl ?_
          refine GX_icmp_eq_N hC 81 dX10_readStatement_50 (by decide) (fun q => ?_) (fun q => ?_)
          · skip
            have h27 := ifP q h26
            refine GX_iload_n hC dX10_readStatement_53 rfl ?_
            refine GX_bipush hC 112 dX10_readStatement_54 rfl ?_
            refine GX_icmp_eq_N hC 81 dX10_readStatement_56 (by decide) (fun q => ?_) (fun q => ?_)
            · skip
              have h28 := ifP q h27
              refine GX_iload_n hC dX10_readStatement_59 rfl ?_
              refine GX_bipush hC 119 dX10_readStatement_60 rfl ?_
              refine GX_icmp_eq_N hC 81 dX10_readStatement_62 (by decide) (fun q => ?_) (fun q => ?_)
              · skip
                have h29 := ifP q h28
                refine GX_iload_n hC dX10_readStatement_65 rfl ?_
                refine GX_bipush hC 111 dX10_readStatement_66 rfl ?_
                refine GX_icmp_eq_N hC 81 dX10_readStatement_68 (by decide) (fun q => ?_) (fun q => ?_)
                · skip
                  have h30 := ifP q h29
                  refine GX_iload_n hC dX10_readStatement_71 rfl ?_
                  refine GX_bipush hC 120 dX10_readStatement_72 rfl ?_
                  refine GX_icmp_eq_N hC 81 dX10_readStatement_74 (by decide) (fun q => ?_) (fun q => ?_)
                  · skip
                    exact hc18 (cdT q h30)
                  · skip
                    exact hc19 (cdF q h30)
                · skip
                  have h31 := ifN q h29
                  exact hc19 (oi h31)
              · skip
                have h32 := ifN q h28
                exact hc19 (oi h32)
            · skip
              have h33 := ifN q h27
              exact hc19 (oi h33)
          · skip
            have h34 := ifN q h26
            exact hc19 (oi h34)
        · skip
          have h35 := ifN q h25
          exact hc19 (oi h35)
      · skip
        have h36 := ifN q h24
        exact hc19 (oi h36)
  obtain ⟨m37, e38, h39⟩ := ob h16
  refine GX_stZ hC e38 fkX10_142 ftX10_15 ol_62 rfl dX10_readStatement_82 ?_
  refine GX_aload_n hC dX10_readStatement_85 rfl ?_
  refine GX_dup hC dX10_readStatement_86 rfl ?_
  refine GX_getI hC fkX10_133 ol_62 rfl dX10_readStatement_87 ?_
  obtain ⟨x40, e41, h42⟩ := ob h39
  suffices hJ43 : GX Γ LAY 0 0 [some (.ref (gad Γ 62)), some (.int k2), some (.int r5)] [.int x40, .int (m37.1 62 14), .ref (gad Γ 62)] m37 102 by
    refine GX_aload_n hC dX10_readStatement_90 rfl ?_
    obtain ⟨b44, e45, h46⟩ := ob e41
    refine GX_ldZ hC e45 fkX10_142 ol_62 rfl dX10_readStatement_91 ?_
    refine GX_ifb_eq hC 101 dX10_readStatement_94 (by decide) (fun q => ?_) (fun q => ?_)
    · skip
      have h47 := ifT q h46
      refine GX_iconst hC 0 dX10_readStatement_97 rfl ?_
      refine GX_goto hC 102 dX10_readStatement_98 (by decide) ?_
      exact GX_nm (oi h47) hJ43
    · skip
      have h48 := ifF q h46
      refine GX_iconst hC 1 dX10_readStatement_101 rfl ?_
      exact GX_nm (oi h48) hJ43
  refine GX_iadd hC dX10_readStatement_102 ?_
  obtain ⟨m49, e50, h51⟩ := ob h42
  refine GX_stF hC e50 fkX10_133 ftX10_14 ol_62 rfl dX10_readStatement_103 ?_
  obtain ⟨o52, e53, h54⟩ := ob h51
  suffices hJ56 : ∀ (m55 : MI), m55 = o52 → GX Γ LAY 0 0 [some (.ref (gad Γ 62)), some (.int k2), some (.int r5)] [] m55 119 by
    refine GX_aload_n hC dX10_readStatement_106 rfl ?_
    obtain ⟨b57, e58, h59⟩ := ob e53
    refine GX_ldZ hC e58 fkX10_142 ol_62 rfl dX10_readStatement_107 ?_
    refine GX_ifb_ne hC 119 dX10_readStatement_110 (by decide) (fun q => ?_) (fun q => ?_)
    · skip
      have h60 := ifT q h59
      exact (hJ56 _ (oi h60))
    · skip
      have h61 := ifF q h59
      refine GX_aload_n hC dX10_readStatement_113 rfl ?_
      refine GX_iload_n hC dX10_readStatement_114 rfl ?_
      refine GX_iload_n hC dX10_readStatement_115 rfl ?_
      obtain ⟨m62, e63, h64⟩ := ob h61
      refine GX_callV_v (st := []) hC (C_M_readRest e63) okX10_readRest lkX10_167 ol_62 rfl rfl (Nat.le_of_ble_eq_true rfl) (Nat.le_of_ble_eq_true rfl) hk rfl (Nat.le_of_ble_eq_true rfl) dX10_readStatement_116 ?_
      exact (hJ56 _ (oi h64))
  intro m55 q65
  subst q65
  refine GX_aload_n hC dX10_readStatement_119 rfl ?_
  refine GX_bipush hC 59 dX10_readStatement_120 rfl ?_
  obtain ⟨m66, e67, h68⟩ := ob h54
  refine GX_callV_v (st := []) hC (C_M_take e67) okX10_take lkX10_160 ol_62 rfl rfl (Nat.le_of_ble_eq_true rfl) (Nat.le_of_ble_eq_true rfl) hk rfl (Nat.le_of_ble_eq_true rfl) dX10_readStatement_122 ?_
  refine GX_aload_n hC dX10_readStatement_125 rfl ?_
  refine GX_dup hC dX10_readStatement_126 rfl ?_
  refine GX_getI hC fkX10_164 ol_62 rfl dX10_readStatement_127 ?_
  refine GX_iconst hC 1 dX10_readStatement_130 rfl ?_
  refine GX_iadd hC dX10_readStatement_131 ?_
  obtain ⟨m69, e70, h71⟩ := ob h68
  refine GX_stF hC e70 fkX10_164 ftX10_16 ol_62 rfl dX10_readStatement_132 ?_
  exact GX_vretW hC hR dX10_readStatement_135 (oi h71)
set_option maxRecDepth 100000 in
set_option maxHeartbeats 4000000 in
theorem C_M_fieldComes {l : Launch} {a1 : Int32} {m2 : MI} {r0 : Bool} {mr : MI}  (hf : M_fieldComes a1 m2 = some (r0, mr)) : Cn l yX10_fieldComes cX10_fieldComes 3 (some .boolean) 0 LAY (fun ad => .ref (ad 62) :: [.int a1]) m2 (fun _ => some (.int (bI r0))) mr := by
  refine Cn.of (fun ad => [some (.ref (ad 62)), some (.int a1), none]) (by decide +kernel) (fun _ => rfl) (fun _ => Nat.le_of_ble_eq_true rfl) (fun Γ hl hC hR hk => ?_)
  subst hl
  replace hC : CX Γ cX10_fieldComes RX10 LAY 0 3 := hC
  dsimp only [M_fieldComes] at hf
  obtain ⟨c3, e4, h5⟩ := ob hf
  have hc6 : true = c3 → GX Γ LAY 0 0 [some (.ref (gad Γ 62)), some (.int a1), none] [] m2 13 := by
    intro q
    have h7 := ifT q.symm h5
    refine GX_iconst hC (bI false) dX10_fieldComes_13 rfl ?_
    exact GX_zretW hC false hR dX10_fieldComes_14 (oi h7)
  have hc8 : false = c3 → GX Γ LAY 0 0 [some (.ref (gad Γ 62)), some (.int a1), none] [] m2 15 := by
    intro q
    have h9 := ifF q.symm h5
    refine GX_aload_n hC dX10_fieldComes_15 rfl ?_
    refine GX_getR hC fkX10_7 ol_62 rfl dX10_fieldComes_16 ?_
    refine GX_aload_n hC dX10_fieldComes_19 rfl ?_
    refine GX_getI hC fkX10_103 ol_62 rfl dX10_fieldComes_20 ?_
    refine GX_iload_n hC dX10_fieldComes_23 rfl ?_
    obtain ⟨m10, e11, h12⟩ := ob h9
    refine GX_stA hC e11 al_63 dX10_fieldComes_24 ?_
    refine GX_aload_n hC dX10_fieldComes_25 rfl ?_
    refine GX_getR hC fkX10_25 ol_62 rfl dX10_fieldComes_26 ?_
    refine GX_aload_n hC dX10_fieldComes_29 rfl ?_
    refine GX_getI hC fkX10_103 ol_62 rfl dX10_fieldComes_30 ?_
    refine GX_iconst hC 0 dX10_fieldComes_33 rfl ?_
    obtain ⟨m13, e14, h15⟩ := ob h12
    refine GX_stA hC e14 al_68 dX10_fieldComes_34 ?_
    refine GX_iconst hC 0 dX10_fieldComes_35 rfl ?_
    refine GX_istore_n hC [some (.ref (gad Γ 62)), some (.int a1), some (.int 0)] dX10_fieldComes_36 (by decide) rfl rfl ?_
    obtain ⟨o16, e17, h18⟩ := ob h15
    suffices hJ19 : ∀ (m22 : MI), m22 = o16 → GX Γ LAY 0 0 [some (.ref (gad Γ 62)), some (.int a1), none] [] m22 79 by
      refine lp_walk (P := fun s => GX Γ LAY 0 0 [some (.ref (gad Γ 62)), some (.int a1), some (.int s.1)] [] s.2 37) (fun s x hx19 hI19 hO19 => ?_) _ _ e17
      obtain ⟨k20, m21⟩ := s
      show GX Γ LAY 0 0 [some (.ref (gad Γ 62)), some (.int a1), some (.int k20)] [] m21 37
      dsimp only [M_fieldComes_s1] at hx19
      refine GX_iload_n hC dX10_fieldComes_37 rfl ?_
      refine GX_bipush hC 6 dX10_fieldComes_38 rfl ?_
      refine GX_icmp_ge_N hC 79 dX10_fieldComes_40 (by decide) (fun q => ?_) (fun q => ?_)
      · skip
        have h23 := ifP q hx19
        refine GX_aload_n hC dX10_fieldComes_43 rfl ?_
        refine GX_getR hC fkX10_13 ol_62 rfl dX10_fieldComes_44 ?_
        refine GX_bipush hC 6 dX10_fieldComes_47 rfl ?_
        refine GX_aload_n hC dX10_fieldComes_49 rfl ?_
        refine GX_getI hC fkX10_103 ol_62 rfl dX10_fieldComes_50 ?_
        refine GX_imul hC dX10_fieldComes_53 ?_
        refine GX_iload_n hC dX10_fieldComes_54 rfl ?_
        refine GX_iadd hC dX10_fieldComes_55 ?_
        refine GX_iconst hC 0 dX10_fieldComes_56 rfl ?_
        obtain ⟨m24, e25, h26⟩ := ob h23
        refine GX_stA hC e25 al_64 dX10_fieldComes_57 ?_
        refine GX_aload_n hC dX10_fieldComes_58 rfl ?_
        refine GX_getR hC fkX10_13 ol_62 rfl dX10_fieldComes_59 ?_
        refine GX_bipush hC 6 dX10_fieldComes_62 rfl ?_
        refine GX_iload_n hC dX10_fieldComes_64 rfl ?_
        refine GX_imul hC dX10_fieldComes_65 ?_
        refine GX_aload_n hC dX10_fieldComes_66 rfl ?_
        refine GX_getI hC fkX10_103 ol_62 rfl dX10_fieldComes_67 ?_
        refine GX_iadd hC dX10_fieldComes_70 ?_
        refine GX_iconst hC 0 dX10_fieldComes_71 rfl ?_
        obtain ⟨m27, e28, h29⟩ := ob h26
        refine GX_stA hC e28 al_64 dX10_fieldComes_72 ?_
        obtain ⟨i30, e31, h32⟩ := ob h29
        refine GX_iinc hC i30 [some (.ref (gad Γ 62)), some (.int a1), some (.int i30)] dX10_fieldComes_73 rfl (oi e31) (by decide) rfl rfl ?_
        refine GX_goto hC 37 dX10_fieldComes_76 (by decide) ?_
        exact hI19 _ (oi h32).symm
      · skip
        have h33 := ifN q hx19
        exact GX.le (hJ19 _ (hO19 _ (oi h33).symm)) ⟨rfl, ⟨rfl, trivial⟩⟩
    intro m22 q34
    subst q34
    refine GX_iconst hC 0 dX10_fieldComes_79 rfl ?_
    refine GX_istore_n hC [some (.ref (gad Γ 62)), some (.int a1), some (.int 0)] dX10_fieldComes_80 (by decide) rfl rfl ?_
    obtain ⟨o35, e36, h37⟩ := ob h18
    suffices hJ38 : ∀ (m41 : MI), m41 = o35 → GX Γ LAY 0 0 [some (.ref (gad Γ 62)), some (.int a1), none] [] m41 110 by
      refine lp_walk (P := fun s => GX Γ LAY 0 0 [some (.ref (gad Γ 62)), some (.int a1), some (.int s.1)] [] s.2 81) (fun s x hx38 hI38 hO38 => ?_) _ _ e36
      obtain ⟨p39, m40⟩ := s
      show GX Γ LAY 0 0 [some (.ref (gad Γ 62)), some (.int a1), some (.int p39)] [] m40 81
      dsimp only [M_fieldComes_s2] at hx38
      refine GX_iload_n hC dX10_fieldComes_81 rfl ?_
      refine GX_iconst hC 3 dX10_fieldComes_82 rfl ?_
      refine GX_icmp_ge_N hC 110 dX10_fieldComes_83 (by decide) (fun q => ?_) (fun q => ?_)
      · skip
        have h42 := ifP q hx38
        refine GX_aload_n hC dX10_fieldComes_86 rfl ?_
        refine GX_getR hC fkX10_22 ol_62 rfl dX10_fieldComes_87 ?_
        refine GX_bipush hC 6 dX10_fieldComes_90 rfl ?_
        refine GX_iload_n hC dX10_fieldComes_92 rfl ?_
        refine GX_imul hC dX10_fieldComes_93 ?_
        refine GX_aload_n hC dX10_fieldComes_94 rfl ?_
        refine GX_getI hC fkX10_103 ol_62 rfl dX10_fieldComes_95 ?_
        refine GX_iadd hC dX10_fieldComes_98 ?_
        refine GX_bipush hC 10 dX10_fieldComes_99 rfl ?_
        refine GX_iload_n hC dX10_fieldComes_101 rfl ?_
        refine GX_imul hC dX10_fieldComes_102 ?_
        obtain ⟨m43, e44, h45⟩ := ob h42
        refine GX_stA hC e44 al_67 dX10_fieldComes_103 ?_
        obtain ⟨i46, e47, h48⟩ := ob h45
        refine GX_iinc hC i46 [some (.ref (gad Γ 62)), some (.int a1), some (.int i46)] dX10_fieldComes_104 rfl (oi e47) (by decide) rfl rfl ?_
        refine GX_goto hC 81 dX10_fieldComes_107 (by decide) ?_
        exact hI38 _ (oi h48).symm
      · skip
        have h49 := ifN q hx38
        exact GX.le (hJ38 _ (hO38 _ (oi h49).symm)) ⟨rfl, ⟨rfl, trivial⟩⟩
    intro m41 q50
    subst q50
    refine GX_aload_n hC dX10_fieldComes_110 rfl ?_
    refine GX_dup hC dX10_fieldComes_111 rfl ?_
    refine GX_getI hC fkX10_103 ol_62 rfl dX10_fieldComes_112 ?_
    refine GX_iconst hC 1 dX10_fieldComes_115 rfl ?_
    refine GX_iadd hC dX10_fieldComes_116 ?_
    obtain ⟨m51, e52, h53⟩ := ob h37
    refine GX_stF hC e52 fkX10_103 ftX10_0 ol_62 rfl dX10_fieldComes_117 ?_
    refine GX_iconst hC (bI true) dX10_fieldComes_120 rfl ?_
    exact GX_zretW hC true hR dX10_fieldComes_121 (oi h53)
  refine GX_iload_n hC dX10_fieldComes_0 rfl ?_
  refine GX_if_eq_P hC 13 dX10_fieldComes_1 (by decide) (fun q => ?_) (fun q => ?_)
  · skip
    have h54 := ifP q e4
    exact hc6 (oi h54)
  · skip
    have h55 := ifN q e4
    refine GX_aload_n hC dX10_fieldComes_4 rfl ?_
    refine GX_getI hC fkX10_103 ol_62 rfl dX10_fieldComes_5 ?_
    refine GX_bipush hC 6 dX10_fieldComes_8 rfl ?_
    refine GX_icmp_ne_N hC 15 dX10_fieldComes_10 (by decide) (fun q => ?_) (fun q => ?_)
    · skip
      exact hc6 (cdT q h55)
    · skip
      exact hc8 (cdF q h55)
set_option maxRecDepth 100000 in
set_option maxHeartbeats 4000000 in
theorem C_M_personComes {l : Launch} {money1 : Int32} {kin2 : Int32} {m3 : MI} {r0 : Bool} {mr : MI}  (hf : M_personComes money1 kin2 m3 = some (r0, mr)) : Cn l yX10_personComes cX10_personComes 4 (some .boolean) 0 LAY (fun ad => .ref (ad 62) :: [.int money1, .int kin2]) m3 (fun _ => some (.int (bI r0))) mr := by
  refine Cn.of (fun ad => [some (.ref (ad 62)), some (.int money1), some (.int kin2), none]) (by decide +kernel) (fun _ => rfl) (fun _ => Nat.le_of_ble_eq_true rfl) (fun Γ hl hC hR hk => ?_)
  subst hl
  replace hC : CX Γ cX10_personComes RX10 LAY 0 4 := hC
  dsimp only [M_personComes] at hf
  obtain ⟨c4, e5, h6⟩ := ob hf
  have hc7 : true = c4 → GX Γ LAY 0 0 [some (.ref (gad Γ 62)), some (.int money1), some (.int kin2), none] [] m3 16 := by
    intro q
    have h8 := ifT q.symm h6
    refine GX_iconst hC (bI false) dX10_personComes_16 rfl ?_
    exact GX_zretW hC false hR dX10_personComes_17 (oi h8)
  have hc9 : false = c4 → GX Γ LAY 0 0 [some (.ref (gad Γ 62)), some (.int money1), some (.int kin2), none] [] m3 18 := by
    intro q
    have h10 := ifF q.symm h6
    refine GX_aload_n hC dX10_personComes_18 rfl ?_
    refine GX_getR hC fkX10_16 ol_62 rfl dX10_personComes_19 ?_
    refine GX_aload_n hC dX10_personComes_22 rfl ?_
    refine GX_getI hC fkX10_110 ol_62 rfl dX10_personComes_23 ?_
    refine GX_iload_n hC dX10_personComes_26 rfl ?_
    obtain ⟨m11, e12, h13⟩ := ob h10
    refine GX_stA hC e12 al_65 dX10_personComes_27 ?_
    refine GX_aload_n hC dX10_personComes_28 rfl ?_
    refine GX_getR hC fkX10_19 ol_62 rfl dX10_personComes_29 ?_
    refine GX_aload_n hC dX10_personComes_32 rfl ?_
    refine GX_getI hC fkX10_110 ol_62 rfl dX10_personComes_33 ?_
    refine GX_iload_n hC dX10_personComes_36 rfl ?_
    obtain ⟨m14, e15, h16⟩ := ob h13
    refine GX_stA hC e15 al_66 dX10_personComes_37 ?_
    refine GX_iconst hC 0 dX10_personComes_38 rfl ?_
    refine GX_istore_n hC [some (.ref (gad Γ 62)), some (.int money1), some (.int kin2), some (.int 0)] dX10_personComes_39 (by decide) rfl rfl ?_
    obtain ⟨o17, e18, h19⟩ := ob h16
    suffices hJ20 : ∀ (m23 : MI), m23 = o17 → GX Γ LAY 0 0 [some (.ref (gad Γ 62)), some (.int money1), some (.int kin2), none] [] m23 77 by
      refine lp_walk (P := fun s => GX Γ LAY 0 0 [some (.ref (gad Γ 62)), some (.int money1), some (.int kin2), some (.int s.1)] [] s.2 40) (fun s x hx20 hI20 hO20 => ?_) _ _ e18
      obtain ⟨f21, m22⟩ := s
      show GX Γ LAY 0 0 [some (.ref (gad Γ 62)), some (.int money1), some (.int kin2), some (.int f21)] [] m22 40
      dsimp only [M_personComes_s1] at hx20
      refine GX_iload_n hC dX10_personComes_40 rfl ?_
      refine GX_aload_n hC dX10_personComes_41 rfl ?_
      refine GX_getI hC fkX10_103 ol_62 rfl dX10_personComes_42 ?_
      refine GX_icmp_ge_N hC 77 dX10_personComes_45 (by decide) (fun q => ?_) (fun q => ?_)
      · skip
        have h24 := ifP q hx20
        refine GX_aload_n hC dX10_personComes_48 rfl ?_
        refine GX_getR hC fkX10_22 ol_62 rfl dX10_personComes_49 ?_
        refine GX_bipush hC 6 dX10_personComes_52 rfl ?_
        refine GX_aload_n hC dX10_personComes_54 rfl ?_
        refine GX_getI hC fkX10_110 ol_62 rfl dX10_personComes_55 ?_
        refine GX_imul hC dX10_personComes_58 ?_
        refine GX_iload_n hC dX10_personComes_59 rfl ?_
        refine GX_iadd hC dX10_personComes_60 ?_
        refine GX_bipush hC 10 dX10_personComes_61 rfl ?_
        refine GX_aload_n hC dX10_personComes_63 rfl ?_
        refine GX_getR hC fkX10_7 ol_62 rfl dX10_personComes_64 ?_
        refine GX_iload_n hC dX10_personComes_67 rfl ?_
        obtain ⟨x25, e26, h27⟩ := ob h24
        refine GX_ldA hC e26 al_63 dX10_personComes_68 ?_
        refine GX_imul hC dX10_personComes_69 ?_
        obtain ⟨m28, e29, h30⟩ := ob h27
        refine GX_stA hC e29 al_67 dX10_personComes_70 ?_
        obtain ⟨i31, e32, h33⟩ := ob h30
        refine GX_iinc hC i31 [some (.ref (gad Γ 62)), some (.int money1), some (.int kin2), some (.int i31)] dX10_personComes_71 rfl (oi e32) (by decide) rfl rfl ?_
        refine GX_goto hC 40 dX10_personComes_74 (by decide) ?_
        exact hI20 _ (oi h33).symm
      · skip
        have h34 := ifN q hx20
        exact GX.le (hJ20 _ (hO20 _ (oi h34).symm)) ⟨rfl, ⟨rfl, ⟨rfl, trivial⟩⟩⟩
    intro m23 q35
    subst q35
    refine GX_aload_n hC dX10_personComes_77 rfl ?_
    refine GX_dup hC dX10_personComes_78 rfl ?_
    refine GX_getI hC fkX10_110 ol_62 rfl dX10_personComes_79 ?_
    refine GX_iconst hC 1 dX10_personComes_82 rfl ?_
    refine GX_iadd hC dX10_personComes_83 ?_
    obtain ⟨m36, e37, h38⟩ := ob h19
    refine GX_stF hC e37 fkX10_110 ftX10_5 ol_62 rfl dX10_personComes_84 ?_
    refine GX_iconst hC (bI true) dX10_personComes_87 rfl ?_
    exact GX_zretW hC true hR dX10_personComes_88 (oi h38)
  refine GX_iload_n hC dX10_personComes_0 rfl ?_
  refine GX_aload_n hC dX10_personComes_1 rfl ?_
  refine GX_getI hC fkX10_110 ol_62 rfl dX10_personComes_2 ?_
  refine GX_icmp_ge_P hC 16 dX10_personComes_5 (by decide) (fun q => ?_) (fun q => ?_)
  · skip
    have h39 := ifP q e5
    exact hc7 (oi h39)
  · skip
    have h40 := ifN q e5
    refine GX_aload_n hC dX10_personComes_8 rfl ?_
    refine GX_getI hC fkX10_110 ol_62 rfl dX10_personComes_9 ?_
    refine GX_iconst hC 3 dX10_personComes_12 rfl ?_
    refine GX_icmp_ne_N hC 18 dX10_personComes_13 (by decide) (fun q => ?_) (fun q => ?_)
    · skip
      exact hc7 (cdT q h40)
    · skip
      exact hc9 (cdF q h40)
set_option maxRecDepth 100000 in
set_option maxHeartbeats 4000000 in
theorem C_M_comes {l : Launch} {k1 : Int32} {m2 : MI} {r0 : Bool} {mr : MI}  (hf : M_comes k1 m2 = some (r0, mr)) : Cn l yX10_comes cX10_comes 6 (some .boolean) 2 LAY (fun ad => .ref (ad 62) :: [.int k1]) m2 (fun _ => some (.int (bI r0))) mr := by
  refine Cn.of (fun ad => [some (.ref (ad 62)), some (.int k1), none, none, none, none]) (by decide +kernel) (fun _ => rfl) (fun _ => Nat.le_of_ble_eq_true rfl) (fun Γ hl hC hR hk => ?_)
  subst hl
  replace hC : CX Γ cX10_comes RX10 LAY 2 6 := hC
  dsimp only [M_comes] at hf
  refine GX_aload_n hC dX10_comes_0 rfl ?_
  refine GX_getR hC fkX10_34 ol_62 rfl dX10_comes_1 ?_
  refine GX_iload_n hC dX10_comes_4 rfl ?_
  obtain ⟨x3, e4, h5⟩ := ob hf
  refine GX_ldA hC e4 al_71 dX10_comes_5 ?_
  refine GX_istore_n hC [some (.ref (gad Γ 62)), some (.int k1), some (.int x3), none, none, none] dX10_comes_6 (by decide) rfl rfl ?_
  refine GX_aload_n hC dX10_comes_7 rfl ?_
  refine GX_getR hC fkX10_37 ol_62 rfl dX10_comes_8 ?_
  refine GX_iload_n hC dX10_comes_11 rfl ?_
  obtain ⟨x6, e7, h8⟩ := ob h5
  refine GX_ldA hC e7 al_72 dX10_comes_12 ?_
  refine GX_istore_n hC [some (.ref (gad Γ 62)), some (.int k1), some (.int x3), some (.int x6), none, none] dX10_comes_13 (by decide) rfl rfl ?_
  refine GX_aload_n hC dX10_comes_14 rfl ?_
  refine GX_getR hC fkX10_40 ol_62 rfl dX10_comes_15 ?_
  refine GX_iload_n hC dX10_comes_18 rfl ?_
  obtain ⟨x9, e10, h11⟩ := ob h8
  refine GX_ldA hC e10 al_73 dX10_comes_19 ?_
  refine GX_istore hC [some (.ref (gad Γ 62)), some (.int k1), some (.int x3), some (.int x6), some (.int x9), none] dX10_comes_20 (by decide) rfl rfl ?_
  refine GX_iload_n hC dX10_comes_22 rfl ?_
  refine GX_bipush hC 102 dX10_comes_23 rfl ?_
  refine GX_icmp_ne_N hC 34 dX10_comes_25 (by decide) (fun q => ?_) (fun q => ?_)
  · skip
    have h12 := ifP q h11
    refine GX_aload_n hC dX10_comes_28 rfl ?_
    refine GX_iload_n hC dX10_comes_29 rfl ?_
    obtain ⟨⟨b13, m14⟩, e15, h16⟩ := ob h12
    refine GX_callV_i (st := []) hC (C_M_fieldComes e15) okX10_fieldComes lkX10_171 ol_62 rfl rfl (Nat.le_of_ble_eq_true rfl) (Nat.le_of_ble_eq_true rfl) hk rfl (Nat.le_of_ble_eq_true rfl) dX10_comes_30 ?_
    exact GX_zretW hC b13 hR dX10_comes_33 (oi h16)
  · skip
    have h17 := ifN q h11
    refine GX_iload_n hC dX10_comes_34 rfl ?_
    refine GX_bipush hC 112 dX10_comes_35 rfl ?_
    refine GX_icmp_ne_N hC 48 dX10_comes_37 (by decide) (fun q => ?_) (fun q => ?_)
    · skip
      have h18 := ifP q h17
      refine GX_aload_n hC dX10_comes_40 rfl ?_
      refine GX_iload_n hC dX10_comes_41 rfl ?_
      refine GX_iload hC dX10_comes_42 rfl ?_
      obtain ⟨⟨b19, m20⟩, e21, h22⟩ := ob h18
      refine GX_callV_i (st := []) hC (C_M_personComes e21) okX10_personComes lkX10_175 ol_62 rfl rfl (Nat.le_of_ble_eq_true rfl) (Nat.le_of_ble_eq_true rfl) hk rfl (Nat.le_of_ble_eq_true rfl) dX10_comes_44 ?_
      exact GX_zretW hC b19 hR dX10_comes_47 (oi h22)
    · skip
      have h23 := ifN q h17
      refine GX_iload_n hC dX10_comes_48 rfl ?_
      refine GX_bipush hC 120 dX10_comes_49 rfl ?_
      refine GX_icmp_ne_N hC 82 dX10_comes_51 (by decide) (fun q => ?_) (fun q => ?_)
      · skip
        have h24 := ifP q h23
        refine GX_aload_n hC dX10_comes_54 rfl ?_
        refine GX_iload_n hC dX10_comes_55 rfl ?_
        obtain ⟨m25, e26, h27⟩ := ob h24
        refine GX_stF hC e26 fkX10_113 ftX10_3 ol_62 rfl dX10_comes_56 ?_
        refine GX_aload_n hC dX10_comes_59 rfl ?_
        refine GX_iload hC dX10_comes_60 rfl ?_
        obtain ⟨m28, e29, h30⟩ := ob h27
        refine GX_stF hC e29 fkX10_116 ftX10_4 ol_62 rfl dX10_comes_62 ?_
        obtain ⟨c31, e32, h33⟩ := ob h30
        suffices hJ34 : GX Γ LAY 0 0 [some (.ref (gad Γ 62)), some (.int k1), some (.int x3), some (.int x6), some (.int x9), none] [.int (bI c31)] m28 81 by
          have hc35 : true = c31 → GX Γ LAY 0 0 [some (.ref (gad Γ 62)), some (.int k1), some (.int x3), some (.int x6), some (.int x9), none] [] m28 76 := by
            intro q
            subst q
            refine GX_iconst hC (bI true) dX10_comes_76 rfl ?_
            refine GX_goto hC 81 dX10_comes_77 (by decide) ?_
            exact hJ34
          have hc36 : false = c31 → GX Γ LAY 0 0 [some (.ref (gad Γ 62)), some (.int k1), some (.int x3), some (.int x6), some (.int x9), none] [] m28 80 := by
            intro q
            subst q
            refine GX_iconst hC (bI false) dX10_comes_80 rfl ?_
            exact hJ34
          refine GX_iload_n hC dX10_comes_65 rfl ?_
          refine GX_iconst hC 2 dX10_comes_66 rfl ?_
          refine GX_icmp_ge_N hC 80 dX10_comes_67 (by decide) (fun q => ?_) (fun q => ?_)
          · skip
            have h37 := ifP q e32
            refine GX_iload hC dX10_comes_70 rfl ?_
            refine GX_iconst hC 2 dX10_comes_72 rfl ?_
            refine GX_icmp_ge_N hC 80 dX10_comes_73 (by decide) (fun q => ?_) (fun q => ?_)
            · skip
              exact hc35 (cdT q h37)
            · skip
              exact hc36 (cdF q h37)
          · skip
            have h38 := ifN q e32
            exact hc36 (oi h38)
        exact GX_zretW hC c31 hR dX10_comes_81 (oi h33)
      · skip
        have h39 := ifN q h23
        obtain ⟨c40, e41, h42⟩ := ob h39
        have hc43 : true = c40 → GX Γ LAY 0 0 [some (.ref (gad Γ 62)), some (.int k1), some (.int x3), some (.int x6), some (.int x9), none] [] m2 94 := by
          intro q
          have h44 := ifT q.symm h42
          obtain ⟨c45, e46, h47⟩ := ob h44
          have hc48 : true = c45 → GX Γ LAY 0 0 [some (.ref (gad Γ 62)), some (.int k1), some (.int x3), some (.int x6), some (.int x9), none] [] m2 132 := by
            intro q
            have h49 := ifT q.symm h47
            refine GX_iconst hC (bI false) dX10_comes_132 rfl ?_
            exact GX_zretW hC false hR dX10_comes_133 (oi h49)
          have hc50 : false = c45 → GX Γ LAY 0 0 [some (.ref (gad Γ 62)), some (.int k1), some (.int x3), some (.int x6), some (.int x9), none] [] m2 134 := by
            intro q
            have h51 := ifF q.symm h47
            obtain ⟨x52, e53, h54⟩ := ob h51
            suffices hJ55 : GX Γ LAY 0 0 [some (.ref (gad Γ 62)), some (.int k1), some (.int x3), some (.int x6), some (.int x9), none] [.int x52] m2 152 by
              refine GX_iload_n hC dX10_comes_134 rfl ?_
              refine GX_bipush hC 99 dX10_comes_135 rfl ?_
              refine GX_icmp_ne_N hC 144 dX10_comes_137 (by decide) (fun q => ?_) (fun q => ?_)
              · skip
                have h56 := ifP q e53
                refine GX_iconst hC 3 dX10_comes_140 rfl ?_
                refine GX_goto hC 152 dX10_comes_141 (by decide) ?_
                exact GX_nm (oi h56) hJ55
              · skip
                have h57 := ifN q e53
                refine GX_iconst hC 1 dX10_comes_144 rfl ?_
                refine GX_aload_n hC dX10_comes_145 rfl ?_
                refine GX_getR hC fkX10_43 ol_62 rfl dX10_comes_146 ?_
                refine GX_iload_n hC dX10_comes_149 rfl ?_
                obtain ⟨x58, e59, h60⟩ := ob h57
                refine GX_ldA hC e59 al_74 dX10_comes_150 ?_
                refine GX_iadd hC dX10_comes_151 ?_
                exact GX_nm (oi h60) hJ55
            refine GX_istore hC [some (.ref (gad Γ 62)), some (.int k1), some (.int x3), some (.int x6), some (.int x9), some (.int x52)] dX10_comes_152 (by decide) rfl rfl ?_
            refine GX_aload_n hC dX10_comes_154 rfl ?_
            refine GX_getR hC fkX10_13 ol_62 rfl dX10_comes_155 ?_
            refine GX_bipush hC 6 dX10_comes_158 rfl ?_
            refine GX_iload_n hC dX10_comes_160 rfl ?_
            refine GX_imul hC dX10_comes_161 ?_
            refine GX_iload hC dX10_comes_162 rfl ?_
            refine GX_iadd hC dX10_comes_164 ?_
            refine GX_iload hC dX10_comes_165 rfl ?_
            obtain ⟨m61, e62, h63⟩ := ob h54
            refine GX_stA hC e62 al_64 dX10_comes_167 ?_
            refine GX_aload_n hC dX10_comes_168 rfl ?_
            refine GX_getR hC fkX10_13 ol_62 rfl dX10_comes_169 ?_
            refine GX_bipush hC 6 dX10_comes_172 rfl ?_
            refine GX_iload hC dX10_comes_174 rfl ?_
            refine GX_imul hC dX10_comes_176 ?_
            refine GX_iload_n hC dX10_comes_177 rfl ?_
            refine GX_iadd hC dX10_comes_178 ?_
            refine GX_iload hC dX10_comes_179 rfl ?_
            obtain ⟨m64, e65, h66⟩ := ob h63
            refine GX_stA hC e65 al_64 dX10_comes_181 ?_
            refine GX_iconst hC (bI true) dX10_comes_182 rfl ?_
            exact GX_zretW hC true hR dX10_comes_183 (oi h66)
          refine GX_aload_n hC dX10_comes_94 rfl ?_
          refine GX_iload_n hC dX10_comes_95 rfl ?_
          obtain ⟨b67, e68, h69⟩ := ob e46
          refine GX_callV_i (st := []) hC (C_M_isField e68) okX10_isField lkX10_178 ol_62 rfl rfl (Nat.le_of_ble_eq_true rfl) (Nat.le_of_ble_eq_true rfl) hk rfl (Nat.le_of_ble_eq_true rfl) dX10_comes_96 ?_
          refine GX_ifb_eq hC 132 dX10_comes_99 (by decide) (fun q => ?_) (fun q => ?_)
          · skip
            have h70 := ifT q h69
            refine GX_aload_n hC dX10_comes_102 rfl ?_
            refine GX_iload hC dX10_comes_103 rfl ?_
            obtain ⟨b71, e72, h73⟩ := ob h70
            refine GX_callV_i (st := []) hC (C_M_isField e72) okX10_isField lkX10_178 ol_62 rfl rfl (Nat.le_of_ble_eq_true rfl) (Nat.le_of_ble_eq_true rfl) hk rfl (Nat.le_of_ble_eq_true rfl) dX10_comes_105 ?_
            refine GX_ifb_eq hC 132 dX10_comes_108 (by decide) (fun q => ?_) (fun q => ?_)
            · skip
              have h74 := ifT q h73
              refine GX_iload_n hC dX10_comes_111 rfl ?_
              refine GX_iload hC dX10_comes_112 rfl ?_
              refine GX_icmp_eq_P hC 132 dX10_comes_114 (by decide) (fun q => ?_) (fun q => ?_)
              · skip
                have h75 := ifP q h74
                exact hc48 (oi h75)
              · skip
                have h76 := ifN q h74
                refine GX_aload_n hC dX10_comes_117 rfl ?_
                refine GX_getR hC fkX10_13 ol_62 rfl dX10_comes_118 ?_
                refine GX_bipush hC 6 dX10_comes_121 rfl ?_
                refine GX_iload_n hC dX10_comes_123 rfl ?_
                refine GX_imul hC dX10_comes_124 ?_
                refine GX_iload hC dX10_comes_125 rfl ?_
                refine GX_iadd hC dX10_comes_127 ?_
                obtain ⟨x77, e78, h79⟩ := ob h76
                refine GX_ldA hC e78 al_64 dX10_comes_128 ?_
                refine GX_if_eq_N hC 134 dX10_comes_129 (by decide) (fun q => ?_) (fun q => ?_)
                · skip
                  exact hc48 (cdT q h79)
                · skip
                  exact hc50 (cdF q h79)
            · skip
              have h80 := ifF q h73
              exact hc48 (oi h80)
          · skip
            have h81 := ifF q h69
            exact hc48 (oi h81)
        have hc82 : false = c40 → GX Γ LAY 0 0 [some (.ref (gad Γ 62)), some (.int k1), some (.int x3), some (.int x6), some (.int x9), none] [] m2 184 := by
          intro q
          have h83 := ifF q.symm h42
          obtain ⟨c84, e85, h86⟩ := ob h83
          have hc87 : true = c84 → GX Γ LAY 0 0 [some (.ref (gad Γ 62)), some (.int k1), some (.int x3), some (.int x6), some (.int x9), none] [] m2 201 := by
            intro q
            have h88 := ifT q.symm h86
            refine GX_iconst hC (bI false) dX10_comes_201 rfl ?_
            exact GX_zretW hC false hR dX10_comes_202 (oi h88)
          have hc89 : false = c84 → GX Γ LAY 0 0 [some (.ref (gad Γ 62)), some (.int k1), some (.int x3), some (.int x6), some (.int x9), none] [] m2 203 := by
            intro q
            have h90 := ifF q.symm h86
            obtain ⟨o91, e92, h93⟩ := ob h90
            suffices hJ95 : ∀ (m94 : MI), m94 = o91 → GX Γ LAY 0 0 [some (.ref (gad Γ 62)), some (.int k1), some (.int x3), some (.int x6), some (.int x9), none] [] m94 240 by
              refine GX_iload_n hC dX10_comes_203 rfl ?_
              refine GX_bipush hC 119 dX10_comes_204 rfl ?_
              refine GX_icmp_ne_N hC 230 dX10_comes_206 (by decide) (fun q => ?_) (fun q => ?_)
              · skip
                have h96 := ifP q e92
                refine GX_aload_n hC dX10_comes_209 rfl ?_
                refine GX_getR hC fkX10_22 ol_62 rfl dX10_comes_210 ?_
                refine GX_bipush hC 6 dX10_comes_213 rfl ?_
                refine GX_iload_n hC dX10_comes_215 rfl ?_
                refine GX_imul hC dX10_comes_216 ?_
                refine GX_iload hC dX10_comes_217 rfl ?_
                refine GX_iadd hC dX10_comes_219 ?_
                refine GX_aload_n hC dX10_comes_220 rfl ?_
                refine GX_getR hC fkX10_43 ol_62 rfl dX10_comes_221 ?_
                refine GX_iload_n hC dX10_comes_224 rfl ?_
                obtain ⟨x97, e98, h99⟩ := ob h96
                refine GX_ldA hC e98 al_74 dX10_comes_225 ?_
                obtain ⟨m100, e101, h102⟩ := ob h99
                refine GX_stA hC e101 al_67 dX10_comes_226 ?_
                refine GX_goto hC 240 dX10_comes_227 (by decide) ?_
                exact (hJ95 _ (oi h102))
              · skip
                have h103 := ifN q e92
                refine GX_aload_n hC dX10_comes_230 rfl ?_
                refine GX_getR hC fkX10_25 ol_62 rfl dX10_comes_231 ?_
                refine GX_iload hC dX10_comes_234 rfl ?_
                refine GX_iload_n hC dX10_comes_236 rfl ?_
                refine GX_iconst hC 1 dX10_comes_237 rfl ?_
                refine GX_iadd hC dX10_comes_238 ?_
                obtain ⟨m104, e105, h106⟩ := ob h103
                refine GX_stA hC e105 al_68 dX10_comes_239 ?_
                exact (hJ95 _ (oi h106))
            intro m94 q107
            subst q107
            refine GX_iconst hC (bI true) dX10_comes_240 rfl ?_
            exact GX_zretW hC true hR dX10_comes_241 (oi h93)
          refine GX_aload_n hC dX10_comes_184 rfl ?_
          refine GX_iload_n hC dX10_comes_185 rfl ?_
          obtain ⟨b108, e109, h110⟩ := ob e85
          refine GX_callV_i (st := []) hC (C_M_isPerson e109) okX10_isPerson lkX10_181 ol_62 rfl rfl (Nat.le_of_ble_eq_true rfl) (Nat.le_of_ble_eq_true rfl) hk rfl (Nat.le_of_ble_eq_true rfl) dX10_comes_186 ?_
          refine GX_ifb_eq hC 201 dX10_comes_189 (by decide) (fun q => ?_) (fun q => ?_)
          · skip
            have h111 := ifT q h110
            refine GX_aload_n hC dX10_comes_192 rfl ?_
            refine GX_iload hC dX10_comes_193 rfl ?_
            obtain ⟨b112, e113, h114⟩ := ob h111
            refine GX_callV_i (st := []) hC (C_M_isField e113) okX10_isField lkX10_178 ol_62 rfl rfl (Nat.le_of_ble_eq_true rfl) (Nat.le_of_ble_eq_true rfl) hk rfl (Nat.le_of_ble_eq_true rfl) dX10_comes_195 ?_
            refine GX_ifb_ne hC 203 dX10_comes_198 (by decide) (fun q => ?_) (fun q => ?_)
            · skip
              exact hc89 (cbnT q h114)
            · skip
              exact hc87 (cbnF q h114)
          · skip
            have h115 := ifF q h110
            exact hc87 (oi h115)
        refine GX_iload_n hC dX10_comes_82 rfl ?_
        refine GX_bipush hC 104 dX10_comes_83 rfl ?_
        refine GX_icmp_eq_P hC 94 dX10_comes_85 (by decide) (fun q => ?_) (fun q => ?_)
        · skip
          have h116 := ifP q e41
          exact hc43 (oi h116)
        · skip
          have h117 := ifN q e41
          refine GX_iload_n hC dX10_comes_88 rfl ?_
          refine GX_bipush hC 99 dX10_comes_89 rfl ?_
          refine GX_icmp_ne_N hC 184 dX10_comes_91 (by decide) (fun q => ?_) (fun q => ?_)
          · skip
            exact hc43 (cdT q h117)
          · skip
            exact hc82 (cdF q h117)
set_option maxRecDepth 100000 in
set_option maxHeartbeats 4000000 in
theorem C_M_carry {l : Launch} {to1 : Nat} {v2 : Int32} {m3 : MI} {r0 : Int32} {mr : MI} (ha_to1 : LAY[to1]? = some (.inr (0, 80, []))) (hf : M_carry to1 v2 m3 = some (r0, mr)) : Cn l yX10_carry cX10_carry 3 (some .int) 0 LAY (fun ad => .ref (ad 62) :: [.ref (ad to1), .int v2]) m3 (fun _ => some (.int r0)) mr := by
  refine Cn.of (fun ad => [some (.ref (ad 62)), some (.ref (ad to1)), some (.int v2)]) (by decide +kernel) (fun _ => rfl) (fun _ => Nat.le_of_ble_eq_true rfl) (fun Γ hl hC hR hk => ?_)
  subst hl
  replace hC : CX Γ cX10_carry RX10 LAY 0 3 := hC
  dsimp only [M_carry] at hf
  obtain ⟨o4, e5, h6⟩ := ob hf
  suffices hJ8 : ∀ (m7 : MI), m7 = o4 → GX Γ LAY 0 0 [some (.ref (gad Γ 62)), some (.ref (gad Γ to1)), some (.int v2)] [] m7 14 by
    refine GX_aload_n hC dX10_carry_0 rfl ?_
    obtain ⟨b9, e10, h11⟩ := ob e5
    refine GX_ldZ hC e10 fkX10_312 ol_62 rfl dX10_carry_1 ?_
    refine GX_ifb_eq hC 14 dX10_carry_4 (by decide) (fun q => ?_) (fun q => ?_)
    · skip
      have h12 := ifT q h11
      refine GX_aload_n hC dX10_carry_7 rfl ?_
      refine GX_aload_n hC dX10_carry_8 rfl ?_
      refine GX_getI hC fkX10_315 ol_62 rfl dX10_carry_9 ?_
      refine GX_iload_n hC dX10_carry_12 rfl ?_
      obtain ⟨m13, e14, h15⟩ := ob h12
      refine GX_stA hC e14 ha_to1 dX10_carry_13 ?_
      exact (hJ8 _ (oi h15))
    · skip
      have h16 := ifF q h11
      exact (hJ8 _ (oi h16))
  intro m7 q17
  subst q17
  refine GX_aload_n hC dX10_carry_14 rfl ?_
  refine GX_dup hC dX10_carry_15 rfl ?_
  refine GX_getI hC fkX10_315 ol_62 rfl dX10_carry_16 ?_
  refine GX_iconst hC 1 dX10_carry_19 rfl ?_
  refine GX_iadd hC dX10_carry_20 ?_
  obtain ⟨m18, e19, h20⟩ := ob h6
  refine GX_stF hC e19 fkX10_315 ftX10_40 ol_62 rfl dX10_carry_21 ?_
  refine GX_aload_n hC dX10_carry_24 rfl ?_
  refine GX_aload_n hC dX10_carry_25 rfl ?_
  refine GX_getI hC fkX10_315 ol_62 rfl dX10_carry_26 ?_
  refine GX_iconst hC 1 dX10_carry_29 rfl ?_
  refine GX_isub hC dX10_carry_30 ?_
  obtain ⟨x21, e22, h23⟩ := ob h20
  refine GX_ldA hC e22 ha_to1 dX10_carry_31 ?_
  exact GX_iretW hC hR dX10_carry_32 (oi h23)
set_option maxRecDepth 100000 in
set_option maxHeartbeats 4000000 in
theorem C_M_carryTo {l : Launch} {to1 : Nat} {takes2 : Bool} {m3 : MI} {mr : MI} (ha_to1 : LAY[to1]? = some (.inr (0, 80, []))) (hf : M_carryTo to1 takes2 m3 = some mr) : Cn l yX10_carryTo cX10_carryTo 4 none 1 LAY (fun ad => .ref (ad 62) :: [.ref (ad to1), .int (bI takes2)]) m3 (fun _ => none) mr := by
  refine Cn.of (fun ad => [some (.ref (ad 62)), some (.ref (ad to1)), some (.int (bI takes2)), none]) (by decide +kernel) (fun _ => rfl) (fun _ => Nat.le_of_ble_eq_true rfl) (fun Γ hl hC hR hk => ?_)
  subst hl
  replace hC : CX Γ cX10_carryTo RX10 LAY 1 4 := hC
  dsimp only [M_carryTo] at hf
  refine GX_aload_n hC dX10_carryTo_0 rfl ?_
  refine GX_iconst hC 0 dX10_carryTo_1 rfl ?_
  obtain ⟨m4, e5, h6⟩ := ob hf
  refine GX_stF hC e5 fkX10_315 ftX10_40 ol_62 rfl dX10_carryTo_2 ?_
  refine GX_aload_n hC dX10_carryTo_5 rfl ?_
  refine GX_iload_n hC dX10_carryTo_6 rfl ?_
  obtain ⟨m7, e8, h9⟩ := ob h6
  refine GX_stZ hC e8 fkX10_312 ftX10_41 ol_62 rfl dX10_carryTo_7 ?_
  refine GX_aload_n hC dX10_carryTo_10 rfl ?_
  refine GX_aload_n hC dX10_carryTo_11 rfl ?_
  refine GX_aload_n hC dX10_carryTo_12 rfl ?_
  refine GX_aload_n hC dX10_carryTo_13 rfl ?_
  refine GX_getI hC fkX10_103 ol_62 rfl dX10_carryTo_14 ?_
  obtain ⟨⟨r10, m11⟩, e12, h13⟩ := ob h9
  refine GX_callV_i (st := [.ref (gad Γ 62)]) hC (C_M_carry ha_to1 e12) okX10_carry lkX10_318 ol_62 rfl rfl (Nat.le_of_ble_eq_true rfl) (Nat.le_of_ble_eq_true rfl) hk rfl (Nat.le_of_ble_eq_true rfl) dX10_carryTo_17 ?_
  obtain ⟨m14, e15, h16⟩ := ob h13
  refine GX_stF hC e15 fkX10_103 ftX10_0 ol_62 rfl dX10_carryTo_20 ?_
  refine GX_aload_n hC dX10_carryTo_23 rfl ?_
  refine GX_aload_n hC dX10_carryTo_24 rfl ?_
  refine GX_aload_n hC dX10_carryTo_25 rfl ?_
  refine GX_aload_n hC dX10_carryTo_26 rfl ?_
  refine GX_getI hC fkX10_113 ol_62 rfl dX10_carryTo_27 ?_
  obtain ⟨⟨r17, m18⟩, e19, h20⟩ := ob h16
  refine GX_callV_i (st := [.ref (gad Γ 62)]) hC (C_M_carry ha_to1 e19) okX10_carry lkX10_318 ol_62 rfl rfl (Nat.le_of_ble_eq_true rfl) (Nat.le_of_ble_eq_true rfl) hk rfl (Nat.le_of_ble_eq_true rfl) dX10_carryTo_30 ?_
  obtain ⟨m21, e22, h23⟩ := ob h20
  refine GX_stF hC e22 fkX10_113 ftX10_3 ol_62 rfl dX10_carryTo_33 ?_
  refine GX_aload_n hC dX10_carryTo_36 rfl ?_
  refine GX_aload_n hC dX10_carryTo_37 rfl ?_
  refine GX_aload_n hC dX10_carryTo_38 rfl ?_
  refine GX_aload_n hC dX10_carryTo_39 rfl ?_
  refine GX_getI hC fkX10_116 ol_62 rfl dX10_carryTo_40 ?_
  obtain ⟨⟨r24, m25⟩, e26, h27⟩ := ob h23
  refine GX_callV_i (st := [.ref (gad Γ 62)]) hC (C_M_carry ha_to1 e26) okX10_carry lkX10_318 ol_62 rfl rfl (Nat.le_of_ble_eq_true rfl) (Nat.le_of_ble_eq_true rfl) hk rfl (Nat.le_of_ble_eq_true rfl) dX10_carryTo_43 ?_
  obtain ⟨m28, e29, h30⟩ := ob h27
  refine GX_stF hC e29 fkX10_116 ftX10_4 ol_62 rfl dX10_carryTo_46 ?_
  refine GX_aload_n hC dX10_carryTo_49 rfl ?_
  refine GX_aload_n hC dX10_carryTo_50 rfl ?_
  refine GX_aload_n hC dX10_carryTo_51 rfl ?_
  refine GX_aload_n hC dX10_carryTo_52 rfl ?_
  refine GX_getI hC fkX10_110 ol_62 rfl dX10_carryTo_53 ?_
  obtain ⟨⟨r31, m32⟩, e33, h34⟩ := ob h30
  refine GX_callV_i (st := [.ref (gad Γ 62)]) hC (C_M_carry ha_to1 e33) okX10_carry lkX10_318 ol_62 rfl rfl (Nat.le_of_ble_eq_true rfl) (Nat.le_of_ble_eq_true rfl) hk rfl (Nat.le_of_ble_eq_true rfl) dX10_carryTo_56 ?_
  obtain ⟨m35, e36, h37⟩ := ob h34
  refine GX_stF hC e36 fkX10_110 ftX10_5 ol_62 rfl dX10_carryTo_59 ?_
  refine GX_iconst hC 0 dX10_carryTo_62 rfl ?_
  refine GX_istore_n hC [some (.ref (gad Γ 62)), some (.ref (gad Γ to1)), some (.int (bI takes2)), some (.int 0)] dX10_carryTo_63 (by decide) rfl rfl ?_
  obtain ⟨o38, e39, h40⟩ := ob h37
  suffices hJ41 : ∀ (m44 : MI), m44 = o38 → GX Γ LAY 0 0 [some (.ref (gad Γ 62)), some (.ref (gad Γ to1)), some (.int (bI takes2)), none] [] m44 110 by
    refine lp_walk (P := fun s => GX Γ LAY 0 0 [some (.ref (gad Γ 62)), some (.ref (gad Γ to1)), some (.int (bI takes2)), some (.int s.1)] [] s.2 64) (fun s x hx41 hI41 hO41 => ?_) _ _ e39
    obtain ⟨k42, m43⟩ := s
    show GX Γ LAY 0 0 [some (.ref (gad Γ 62)), some (.ref (gad Γ to1)), some (.int (bI takes2)), some (.int k42)] [] m43 64
    dsimp only [M_carryTo_s1] at hx41
    refine GX_iload_n hC dX10_carryTo_64 rfl ?_
    refine GX_bipush hC 6 dX10_carryTo_65 rfl ?_
    refine GX_icmp_ge_N hC 110 dX10_carryTo_67 (by decide) (fun q => ?_) (fun q => ?_)
    · skip
      have h45 := ifP q hx41
      refine GX_aload_n hC dX10_carryTo_70 rfl ?_
      refine GX_getR hC fkX10_7 ol_62 rfl dX10_carryTo_71 ?_
      refine GX_iload_n hC dX10_carryTo_74 rfl ?_
      refine GX_aload_n hC dX10_carryTo_75 rfl ?_
      refine GX_aload_n hC dX10_carryTo_76 rfl ?_
      refine GX_aload_n hC dX10_carryTo_77 rfl ?_
      refine GX_getR hC fkX10_7 ol_62 rfl dX10_carryTo_78 ?_
      refine GX_iload_n hC dX10_carryTo_81 rfl ?_
      obtain ⟨x46, e47, h48⟩ := ob h45
      refine GX_ldA hC e47 al_63 dX10_carryTo_82 ?_
      obtain ⟨⟨r49, m50⟩, e51, h52⟩ := ob h48
      refine GX_callV_i (st := [.int k42, .ref (gad Γ 63)]) hC (C_M_carry ha_to1 e51) okX10_carry lkX10_318 ol_62 rfl rfl (Nat.le_of_ble_eq_true rfl) (Nat.le_of_ble_eq_true rfl) hk rfl (Nat.le_of_ble_eq_true rfl) dX10_carryTo_83 ?_
      obtain ⟨m53, e54, h55⟩ := ob h52
      refine GX_stA hC e54 al_63 dX10_carryTo_86 ?_
      refine GX_aload_n hC dX10_carryTo_87 rfl ?_
      refine GX_getR hC fkX10_25 ol_62 rfl dX10_carryTo_88 ?_
      refine GX_iload_n hC dX10_carryTo_91 rfl ?_
      refine GX_aload_n hC dX10_carryTo_92 rfl ?_
      refine GX_aload_n hC dX10_carryTo_93 rfl ?_
      refine GX_aload_n hC dX10_carryTo_94 rfl ?_
      refine GX_getR hC fkX10_25 ol_62 rfl dX10_carryTo_95 ?_
      refine GX_iload_n hC dX10_carryTo_98 rfl ?_
      obtain ⟨x56, e57, h58⟩ := ob h55
      refine GX_ldA hC e57 al_68 dX10_carryTo_99 ?_
      obtain ⟨⟨r59, m60⟩, e61, h62⟩ := ob h58
      refine GX_callV_i (st := [.int k42, .ref (gad Γ 68)]) hC (C_M_carry ha_to1 e61) okX10_carry lkX10_318 ol_62 rfl rfl (Nat.le_of_ble_eq_true rfl) (Nat.le_of_ble_eq_true rfl) hk rfl (Nat.le_of_ble_eq_true rfl) dX10_carryTo_100 ?_
      obtain ⟨m63, e64, h65⟩ := ob h62
      refine GX_stA hC e64 al_68 dX10_carryTo_103 ?_
      obtain ⟨i66, e67, h68⟩ := ob h65
      refine GX_iinc hC i66 [some (.ref (gad Γ 62)), some (.ref (gad Γ to1)), some (.int (bI takes2)), some (.int i66)] dX10_carryTo_104 rfl (oi e67) (by decide) rfl rfl ?_
      refine GX_goto hC 64 dX10_carryTo_107 (by decide) ?_
      exact hI41 _ (oi h68).symm
    · skip
      have h69 := ifN q hx41
      exact GX.le (hJ41 _ (hO41 _ (oi h69).symm)) ⟨rfl, ⟨rfl, ⟨rfl, trivial⟩⟩⟩
  intro m44 q70
  subst q70
  refine GX_iconst hC 0 dX10_carryTo_110 rfl ?_
  refine GX_istore_n hC [some (.ref (gad Γ 62)), some (.ref (gad Γ to1)), some (.int (bI takes2)), some (.int 0)] dX10_carryTo_111 (by decide) rfl rfl ?_
  obtain ⟨o71, e72, h73⟩ := ob h40
  suffices hJ74 : ∀ (m77 : MI), m77 = o71 → GX Γ LAY 0 0 [some (.ref (gad Γ 62)), some (.ref (gad Γ to1)), some (.int (bI takes2)), none] [] m77 141 by
    refine lp_walk (P := fun s => GX Γ LAY 0 0 [some (.ref (gad Γ 62)), some (.ref (gad Γ to1)), some (.int (bI takes2)), some (.int s.1)] [] s.2 112) (fun s x hx74 hI74 hO74 => ?_) _ _ e72
    obtain ⟨k75, m76⟩ := s
    show GX Γ LAY 0 0 [some (.ref (gad Γ 62)), some (.ref (gad Γ to1)), some (.int (bI takes2)), some (.int k75)] [] m76 112
    dsimp only [M_carryTo_s2] at hx74
    refine GX_iload_n hC dX10_carryTo_112 rfl ?_
    refine GX_bipush hC 36 dX10_carryTo_113 rfl ?_
    refine GX_icmp_ge_N hC 141 dX10_carryTo_115 (by decide) (fun q => ?_) (fun q => ?_)
    · skip
      have h78 := ifP q hx74
      refine GX_aload_n hC dX10_carryTo_118 rfl ?_
      refine GX_getR hC fkX10_13 ol_62 rfl dX10_carryTo_119 ?_
      refine GX_iload_n hC dX10_carryTo_122 rfl ?_
      refine GX_aload_n hC dX10_carryTo_123 rfl ?_
      refine GX_aload_n hC dX10_carryTo_124 rfl ?_
      refine GX_aload_n hC dX10_carryTo_125 rfl ?_
      refine GX_getR hC fkX10_13 ol_62 rfl dX10_carryTo_126 ?_
      refine GX_iload_n hC dX10_carryTo_129 rfl ?_
      obtain ⟨x79, e80, h81⟩ := ob h78
      refine GX_ldA hC e80 al_64 dX10_carryTo_130 ?_
      obtain ⟨⟨r82, m83⟩, e84, h85⟩ := ob h81
      refine GX_callV_i (st := [.int k75, .ref (gad Γ 64)]) hC (C_M_carry ha_to1 e84) okX10_carry lkX10_318 ol_62 rfl rfl (Nat.le_of_ble_eq_true rfl) (Nat.le_of_ble_eq_true rfl) hk rfl (Nat.le_of_ble_eq_true rfl) dX10_carryTo_131 ?_
      obtain ⟨m86, e87, h88⟩ := ob h85
      refine GX_stA hC e87 al_64 dX10_carryTo_134 ?_
      obtain ⟨i89, e90, h91⟩ := ob h88
      refine GX_iinc hC i89 [some (.ref (gad Γ 62)), some (.ref (gad Γ to1)), some (.int (bI takes2)), some (.int i89)] dX10_carryTo_135 rfl (oi e90) (by decide) rfl rfl ?_
      refine GX_goto hC 112 dX10_carryTo_138 (by decide) ?_
      exact hI74 _ (oi h91).symm
    · skip
      have h92 := ifN q hx74
      exact GX.le (hJ74 _ (hO74 _ (oi h92).symm)) ⟨rfl, ⟨rfl, ⟨rfl, trivial⟩⟩⟩
  intro m77 q93
  subst q93
  refine GX_iconst hC 0 dX10_carryTo_141 rfl ?_
  refine GX_istore_n hC [some (.ref (gad Γ 62)), some (.ref (gad Γ to1)), some (.int (bI takes2)), some (.int 0)] dX10_carryTo_142 (by decide) rfl rfl ?_
  obtain ⟨o94, e95, h96⟩ := ob h73
  suffices hJ97 : ∀ (m100 : MI), m100 = o94 → GX Γ LAY 0 0 [some (.ref (gad Γ 62)), some (.ref (gad Γ to1)), some (.int (bI takes2)), none] [] m100 188 by
    refine lp_walk (P := fun s => GX Γ LAY 0 0 [some (.ref (gad Γ 62)), some (.ref (gad Γ to1)), some (.int (bI takes2)), some (.int s.1)] [] s.2 143) (fun s x hx97 hI97 hO97 => ?_) _ _ e95
    obtain ⟨k98, m99⟩ := s
    show GX Γ LAY 0 0 [some (.ref (gad Γ 62)), some (.ref (gad Γ to1)), some (.int (bI takes2)), some (.int k98)] [] m99 143
    dsimp only [M_carryTo_s3] at hx97
    refine GX_iload_n hC dX10_carryTo_143 rfl ?_
    refine GX_iconst hC 3 dX10_carryTo_144 rfl ?_
    refine GX_icmp_ge_N hC 188 dX10_carryTo_145 (by decide) (fun q => ?_) (fun q => ?_)
    · skip
      have h101 := ifP q hx97
      refine GX_aload_n hC dX10_carryTo_148 rfl ?_
      refine GX_getR hC fkX10_16 ol_62 rfl dX10_carryTo_149 ?_
      refine GX_iload_n hC dX10_carryTo_152 rfl ?_
      refine GX_aload_n hC dX10_carryTo_153 rfl ?_
      refine GX_aload_n hC dX10_carryTo_154 rfl ?_
      refine GX_aload_n hC dX10_carryTo_155 rfl ?_
      refine GX_getR hC fkX10_16 ol_62 rfl dX10_carryTo_156 ?_
      refine GX_iload_n hC dX10_carryTo_159 rfl ?_
      obtain ⟨x102, e103, h104⟩ := ob h101
      refine GX_ldA hC e103 al_65 dX10_carryTo_160 ?_
      obtain ⟨⟨r105, m106⟩, e107, h108⟩ := ob h104
      refine GX_callV_i (st := [.int k98, .ref (gad Γ 65)]) hC (C_M_carry ha_to1 e107) okX10_carry lkX10_318 ol_62 rfl rfl (Nat.le_of_ble_eq_true rfl) (Nat.le_of_ble_eq_true rfl) hk rfl (Nat.le_of_ble_eq_true rfl) dX10_carryTo_161 ?_
      obtain ⟨m109, e110, h111⟩ := ob h108
      refine GX_stA hC e110 al_65 dX10_carryTo_164 ?_
      refine GX_aload_n hC dX10_carryTo_165 rfl ?_
      refine GX_getR hC fkX10_19 ol_62 rfl dX10_carryTo_166 ?_
      refine GX_iload_n hC dX10_carryTo_169 rfl ?_
      refine GX_aload_n hC dX10_carryTo_170 rfl ?_
      refine GX_aload_n hC dX10_carryTo_171 rfl ?_
      refine GX_aload_n hC dX10_carryTo_172 rfl ?_
      refine GX_getR hC fkX10_19 ol_62 rfl dX10_carryTo_173 ?_
      refine GX_iload_n hC dX10_carryTo_176 rfl ?_
      obtain ⟨x112, e113, h114⟩ := ob h111
      refine GX_ldA hC e113 al_66 dX10_carryTo_177 ?_
      obtain ⟨⟨r115, m116⟩, e117, h118⟩ := ob h114
      refine GX_callV_i (st := [.int k98, .ref (gad Γ 66)]) hC (C_M_carry ha_to1 e117) okX10_carry lkX10_318 ol_62 rfl rfl (Nat.le_of_ble_eq_true rfl) (Nat.le_of_ble_eq_true rfl) hk rfl (Nat.le_of_ble_eq_true rfl) dX10_carryTo_178 ?_
      obtain ⟨m119, e120, h121⟩ := ob h118
      refine GX_stA hC e120 al_66 dX10_carryTo_181 ?_
      obtain ⟨i122, e123, h124⟩ := ob h121
      refine GX_iinc hC i122 [some (.ref (gad Γ 62)), some (.ref (gad Γ to1)), some (.int (bI takes2)), some (.int i122)] dX10_carryTo_182 rfl (oi e123) (by decide) rfl rfl ?_
      refine GX_goto hC 143 dX10_carryTo_185 (by decide) ?_
      exact hI97 _ (oi h124).symm
    · skip
      have h125 := ifN q hx97
      exact GX.le (hJ97 _ (hO97 _ (oi h125).symm)) ⟨rfl, ⟨rfl, ⟨rfl, trivial⟩⟩⟩
  intro m100 q126
  subst q126
  refine GX_iconst hC 0 dX10_carryTo_188 rfl ?_
  refine GX_istore_n hC [some (.ref (gad Γ 62)), some (.ref (gad Γ to1)), some (.int (bI takes2)), some (.int 0)] dX10_carryTo_189 (by decide) rfl rfl ?_
  obtain ⟨o127, e128, h129⟩ := ob h96
  suffices hJ130 : ∀ (m133 : MI), m133 = o127 → GX Γ LAY 0 0 [some (.ref (gad Γ 62)), some (.ref (gad Γ to1)), some (.int (bI takes2)), none] [] m133 219 by
    refine lp_walk (P := fun s => GX Γ LAY 0 0 [some (.ref (gad Γ 62)), some (.ref (gad Γ to1)), some (.int (bI takes2)), some (.int s.1)] [] s.2 190) (fun s x hx130 hI130 hO130 => ?_) _ _ e128
    obtain ⟨k131, m132⟩ := s
    show GX Γ LAY 0 0 [some (.ref (gad Γ 62)), some (.ref (gad Γ to1)), some (.int (bI takes2)), some (.int k131)] [] m132 190
    dsimp only [M_carryTo_s4] at hx130
    refine GX_iload_n hC dX10_carryTo_190 rfl ?_
    refine GX_bipush hC 18 dX10_carryTo_191 rfl ?_
    refine GX_icmp_ge_N hC 219 dX10_carryTo_193 (by decide) (fun q => ?_) (fun q => ?_)
    · skip
      have h134 := ifP q hx130
      refine GX_aload_n hC dX10_carryTo_196 rfl ?_
      refine GX_getR hC fkX10_22 ol_62 rfl dX10_carryTo_197 ?_
      refine GX_iload_n hC dX10_carryTo_200 rfl ?_
      refine GX_aload_n hC dX10_carryTo_201 rfl ?_
      refine GX_aload_n hC dX10_carryTo_202 rfl ?_
      refine GX_aload_n hC dX10_carryTo_203 rfl ?_
      refine GX_getR hC fkX10_22 ol_62 rfl dX10_carryTo_204 ?_
      refine GX_iload_n hC dX10_carryTo_207 rfl ?_
      obtain ⟨x135, e136, h137⟩ := ob h134
      refine GX_ldA hC e136 al_67 dX10_carryTo_208 ?_
      obtain ⟨⟨r138, m139⟩, e140, h141⟩ := ob h137
      refine GX_callV_i (st := [.int k131, .ref (gad Γ 67)]) hC (C_M_carry ha_to1 e140) okX10_carry lkX10_318 ol_62 rfl rfl (Nat.le_of_ble_eq_true rfl) (Nat.le_of_ble_eq_true rfl) hk rfl (Nat.le_of_ble_eq_true rfl) dX10_carryTo_209 ?_
      obtain ⟨m142, e143, h144⟩ := ob h141
      refine GX_stA hC e143 al_67 dX10_carryTo_212 ?_
      obtain ⟨i145, e146, h147⟩ := ob h144
      refine GX_iinc hC i145 [some (.ref (gad Γ 62)), some (.ref (gad Γ to1)), some (.int (bI takes2)), some (.int i145)] dX10_carryTo_213 rfl (oi e146) (by decide) rfl rfl ?_
      refine GX_goto hC 190 dX10_carryTo_216 (by decide) ?_
      exact hI130 _ (oi h147).symm
    · skip
      have h148 := ifN q hx130
      exact GX.le (hJ130 _ (hO130 _ (oi h148).symm)) ⟨rfl, ⟨rfl, ⟨rfl, trivial⟩⟩⟩
  intro m133 q149
  subst q149
  exact GX_vretW hC hR dX10_carryTo_219 (oi h129)
set_option maxRecDepth 100000 in
set_option maxHeartbeats 4000000 in
theorem C_M_wrongRow {l : Launch} {d1 : Int32} {m2 : MI} {r0 : Int32}  (hf : M_wrongRow d1 m2 = some r0) : Cn l yX10_wrongRow cX10_wrongRow 2 (some .int) 1 LAY (fun ad => .ref (ad 62) :: [.int d1]) m2 (fun _ => some (.int r0)) m2 := by
  refine Cn.of (fun ad => [some (.ref (ad 62)), some (.int d1)]) (by decide +kernel) (fun _ => rfl) (fun _ => Nat.le_of_ble_eq_true rfl) (fun Γ hl hC hR hk => ?_)
  subst hl
  replace hC : CX Γ cX10_wrongRow RX10 LAY 1 2 := hC
  dsimp only [M_wrongRow] at hf
  obtain ⟨x3, e4, h5⟩ := ob hf
  suffices hJ6 : GX Γ LAY 0 0 [some (.ref (gad Γ 62)), some (.int d1)] [.int x3] m2 46 by
    refine GX_iload_n hC dX10_wrongRow_0 rfl ?_
    refine GX_i2l hC dX10_wrongRow_1 ?_
    refine GX_lconst hC 0 dX10_wrongRow_2 rfl ?_
    refine GX_ldc2 hC 7 kcX10_214 dX10_wrongRow_3 ?_
    obtain ⟨b7, e8, h9⟩ := ob e4
    refine GX_callS_i (st := []) hC (C_M_in e8) okX10_in lkX10_106 rfl (Nat.le_of_ble_eq_true rfl) (Nat.le_of_ble_eq_true rfl) hk rfl (Nat.le_of_ble_eq_true rfl) dX10_wrongRow_6 ?_
    refine GX_ifb_ne hC 16 dX10_wrongRow_9 (by decide) (fun q => ?_) (fun q => ?_)
    · skip
      have h10 := ifT q h9
      obtain ⟨x11, e12, h13⟩ := ob h10
      suffices hJ14 : GX Γ LAY 0 0 [some (.ref (gad Γ 62)), some (.int d1)] [.int x11] m2 46 by
        refine GX_aload_n hC dX10_wrongRow_16 rfl ?_
        refine GX_getR hC fkX10_77 ol_62 rfl dX10_wrongRow_17 ?_
        refine GX_iload_n hC dX10_wrongRow_20 rfl ?_
        obtain ⟨x15, e16, h17⟩ := ob e12
        refine GX_ldA hC e16 al_85 dX10_wrongRow_21 ?_
        refine GX_if_ne_N hC 30 dX10_wrongRow_22 (by decide) (fun q => ?_) (fun q => ?_)
        · skip
          have h18 := ifP q h17
          refine GX_bipush hC (-11) dX10_wrongRow_25 rfl ?_
          refine GX_goto hC 46 dX10_wrongRow_27 (by decide) ?_
          exact GX_nm (oi h18) hJ14
        · skip
          have h19 := ifN q h17
          obtain ⟨x20, e21, h22⟩ := ob h19
          suffices hJ23 : GX Γ LAY 0 0 [some (.ref (gad Γ 62)), some (.int d1)] [.int x20] m2 46 by
            refine GX_aload_n hC dX10_wrongRow_30 rfl ?_
            refine GX_getR hC fkX10_77 ol_62 rfl dX10_wrongRow_31 ?_
            refine GX_iload_n hC dX10_wrongRow_34 rfl ?_
            obtain ⟨x24, e25, h26⟩ := ob e21
            refine GX_ldA hC e25 al_85 dX10_wrongRow_35 ?_
            refine GX_iconst hC 2 dX10_wrongRow_36 rfl ?_
            refine GX_icmp_eq_N hC 45 dX10_wrongRow_37 (by decide) (fun q => ?_) (fun q => ?_)
            · skip
              have h27 := ifP q h26
              refine GX_bipush hC (-12) dX10_wrongRow_40 rfl ?_
              refine GX_goto hC 46 dX10_wrongRow_42 (by decide) ?_
              exact GX_nm (oi h27) hJ23
            · skip
              have h28 := ifN q h26
              refine GX_iconst hC 0 dX10_wrongRow_45 rfl ?_
              exact GX_nm (oi h28) hJ23
          exact GX_nm (oi h22) hJ14
      exact GX_nm (oi h13) hJ6
    · skip
      have h29 := ifF q h9
      refine GX_iconst hC (-1) dX10_wrongRow_12 rfl ?_
      refine GX_goto hC 46 dX10_wrongRow_13 (by decide) ?_
      exact GX_nm (oi h29) hJ6
  exact GX_iretR hC hR dX10_wrongRow_46 (oi h5)
set_option maxRecDepth 100000 in
set_option maxHeartbeats 4000000 in
theorem C_M_wrongBytes {l : Launch} {d1 : Int32} {m2 : MI} {r0 : Int32}  (hf : M_wrongBytes d1 m2 = some r0) : Cn l yX10_wrongBytes cX10_wrongBytes 2 (some .int) 2 LAY (fun ad => .ref (ad 62) :: [.int d1]) m2 (fun _ => some (.int r0)) m2 := by
  refine Cn.of (fun ad => [some (.ref (ad 62)), some (.int d1)]) (by decide +kernel) (fun _ => rfl) (fun _ => Nat.le_of_ble_eq_true rfl) (fun Γ hl hC hR hk => ?_)
  subst hl
  replace hC : CX Γ cX10_wrongBytes RX10 LAY 2 2 := hC
  dsimp only [M_wrongBytes] at hf
  obtain ⟨x3, e4, h5⟩ := ob hf
  suffices hJ6 : GX Γ LAY 0 0 [some (.ref (gad Γ 62)), some (.int d1)] [.int x3] m2 31 by
    refine GX_aload_n hC dX10_wrongBytes_0 rfl ?_
    refine GX_iload_n hC dX10_wrongBytes_1 rfl ?_
    obtain ⟨r7, e8, h9⟩ := ob e4
    refine GX_callV_i (st := []) hC (C_M_wrongRow e8) okX10_wrongRow lkX10_331 ol_62 rfl rfl (Nat.le_of_ble_eq_true rfl) (Nat.le_of_ble_eq_true rfl) hk rfl (Nat.le_of_ble_eq_true rfl) dX10_wrongBytes_2 ?_
    refine GX_if_ge_N hC 16 dX10_wrongBytes_5 (by decide) (fun q => ?_) (fun q => ?_)
    · skip
      have h10 := ifP q h9
      refine GX_aload_n hC dX10_wrongBytes_8 rfl ?_
      refine GX_iload_n hC dX10_wrongBytes_9 rfl ?_
      obtain ⟨r11, e12, h13⟩ := ob h10
      refine GX_callV_i (st := []) hC (C_M_wrongRow e12) okX10_wrongRow lkX10_331 ol_62 rfl rfl (Nat.le_of_ble_eq_true rfl) (Nat.le_of_ble_eq_true rfl) hk rfl (Nat.le_of_ble_eq_true rfl) dX10_wrongBytes_10 ?_
      refine GX_goto hC 31 dX10_wrongBytes_13 (by decide) ?_
      exact GX_nm (oi h13) hJ6
    · skip
      have h14 := ifN q h9
      obtain ⟨x15, e16, h17⟩ := ob h14
      suffices hJ18 : GX Γ LAY 0 0 [some (.ref (gad Γ 62)), some (.int d1)] [.int x15] m2 31 by
        refine GX_aload_n hC dX10_wrongBytes_16 rfl ?_
        refine GX_getR hC fkX10_86 ol_62 rfl dX10_wrongBytes_17 ?_
        refine GX_iload_n hC dX10_wrongBytes_20 rfl ?_
        obtain ⟨x19, e20, h21⟩ := ob e16
        refine GX_ldA hC e20 al_88 dX10_wrongBytes_21 ?_
        refine GX_if_eq_N hC 30 dX10_wrongBytes_22 (by decide) (fun q => ?_) (fun q => ?_)
        · skip
          have h22 := ifP q h21
          refine GX_bipush hC (-12) dX10_wrongBytes_25 rfl ?_
          refine GX_goto hC 31 dX10_wrongBytes_27 (by decide) ?_
          exact GX_nm (oi h22) hJ18
        · skip
          have h23 := ifN q h21
          refine GX_iconst hC 0 dX10_wrongBytes_30 rfl ?_
          exact GX_nm (oi h23) hJ18
      exact GX_nm (oi h17) hJ6
  exact GX_iretR hC hR dX10_wrongBytes_31 (oi h5)
set_option maxRecDepth 100000 in
set_option maxHeartbeats 4000000 in
theorem C_M_land {l : Launch} {d1 : Int32} {m2 : MI} {r0 : Int32} {mr : MI}  (hf : M_land d1 m2 = some (r0, mr)) : Cn l yX10_land cX10_land 4 (some .int) 5 LAY (fun ad => .ref (ad 62) :: [.int d1]) m2 (fun _ => some (.int r0)) mr := by
  refine Cn.of (fun ad => [some (.ref (ad 62)), some (.int d1), none, none]) (by decide +kernel) (fun _ => rfl) (fun _ => Nat.le_of_ble_eq_true rfl) (fun Γ hl hC hR hk => ?_)
  subst hl
  replace hC : CX Γ cX10_land RX10 LAY 5 4 := hC
  dsimp only [M_land] at hf
  refine GX_aload_n hC dX10_land_0 rfl ?_
  refine GX_iconst hC 0 dX10_land_1 rfl ?_
  obtain ⟨m3, e4, h5⟩ := ob hf
  refine GX_stF hC e4 fkX10_99 ftX10_10 ol_62 rfl dX10_land_2 ?_
  refine GX_aload_n hC dX10_land_5 rfl ?_
  refine GX_iload_n hC dX10_land_6 rfl ?_
  obtain ⟨r6, e7, h8⟩ := ob h5
  refine GX_callV_i (st := []) hC (C_M_wrongBytes e7) okX10_wrongBytes lkX10_184 ol_62 rfl rfl (Nat.le_of_ble_eq_true rfl) (Nat.le_of_ble_eq_true rfl) hk rfl (Nat.le_of_ble_eq_true rfl) dX10_land_7 ?_
  refine GX_istore_n hC [some (.ref (gad Γ 62)), some (.int d1), some (.int r6), none] dX10_land_10 (by decide) rfl rfl ?_
  refine GX_iload_n hC dX10_land_11 rfl ?_
  refine GX_if_ge_N hC 17 dX10_land_12 (by decide) (fun q => ?_) (fun q => ?_)
  · skip
    have h9 := ifP q h8
    refine GX_iload_n hC dX10_land_15 rfl ?_
    exact GX_iretW hC hR dX10_land_16 (oi h9)
  · skip
    have h10 := ifN q h8
    refine GX_aload_n hC dX10_land_17 rfl ?_
    refine GX_bipush hC 100 dX10_land_18 rfl ?_
    refine GX_iload_n hC dX10_land_20 rfl ?_
    refine GX_imul hC dX10_land_21 ?_
    obtain ⟨m11, e12, h13⟩ := ob h10
    refine GX_stF hC e12 fkX10_139 ftX10_12 ol_62 rfl dX10_land_22 ?_
    refine GX_aload_n hC dX10_land_25 rfl ?_
    refine GX_aload_n hC dX10_land_26 rfl ?_
    refine GX_getR hC fkX10_89 ol_62 rfl dX10_land_27 ?_
    refine GX_iload_n hC dX10_land_30 rfl ?_
    obtain ⟨x14, e15, h16⟩ := ob h13
    refine GX_ldA hC e15 al_89 dX10_land_31 ?_
    obtain ⟨m17, e18, h19⟩ := ob h16
    refine GX_stF hC e18 fkX10_136 ftX10_13 ol_62 rfl dX10_land_32 ?_
    refine GX_aload_n hC dX10_land_35 rfl ?_
    refine GX_iconst hC 0 dX10_land_36 rfl ?_
    obtain ⟨m20, e21, h22⟩ := ob h19
    refine GX_stF hC e21 fkX10_133 ftX10_14 ol_62 rfl dX10_land_37 ?_
    refine GX_aload_n hC dX10_land_40 rfl ?_
    refine GX_iconst hC (bI false) dX10_land_41 rfl ?_
    obtain ⟨m23, e24, h25⟩ := ob h22
    refine GX_stZ hC e24 fkX10_142 ftX10_15 ol_62 rfl dX10_land_42 ?_
    refine GX_aload_n hC dX10_land_45 rfl ?_
    refine GX_iconst hC 0 dX10_land_46 rfl ?_
    obtain ⟨m26, e27, h28⟩ := ob h25
    refine GX_stF hC e27 fkX10_164 ftX10_16 ol_62 rfl dX10_land_47 ?_
    obtain ⟨o29, e30, h31⟩ := ob h28
    suffices hJ32 : ∀ (m34 : MI), m34 = o29 → GX Γ LAY 0 0 [some (.ref (gad Γ 62)), some (.int d1), some (.int r6), none] [] m34 82 by
      refine lp_walk (P := fun s => GX Γ LAY 0 0 [some (.ref (gad Γ 62)), some (.int d1), some (.int r6), none] [] s 50) (fun m33 x hx32 hI32 hO32 => ?_) _ _ e30
      show GX Γ LAY 0 0 [some (.ref (gad Γ 62)), some (.int d1), some (.int r6), none] [] m33 50
      dsimp only [M_land_s1] at hx32
      obtain ⟨c35, e36, h37⟩ := ob hx32
      have hc38 : true = c35 → GX Γ LAY 0 0 [some (.ref (gad Γ 62)), some (.int d1), some (.int r6), none] [] m33 75 := by
        intro q
        have h39 := ifT q.symm h37
        refine GX_aload_n hC dX10_land_75 rfl ?_
        obtain ⟨m40, e41, h42⟩ := ob h39
        refine GX_callV_v (st := []) hC (C_M_readStatement e41) okX10_readStatement lkX10_187 ol_62 rfl rfl (Nat.le_of_ble_eq_true rfl) (Nat.le_of_ble_eq_true rfl) hk rfl (Nat.le_of_ble_eq_true rfl) dX10_land_76 ?_
        refine GX_goto hC 50 dX10_land_79 (by decide) ?_
        exact hI32 _ (oi h42).symm
      have hc43 : false = c35 → GX Γ LAY 0 0 [some (.ref (gad Γ 62)), some (.int d1), some (.int r6), none] [] m33 82 := by
        intro q
        have h44 := ifF q.symm h37
        exact (hJ32 _ (hO32 _ (oi h44).symm))
      refine GX_aload_n hC dX10_land_50 rfl ?_
      obtain ⟨b45, e46, h47⟩ := ob e36
      refine GX_ldZ hC e46 fkX10_142 ol_62 rfl dX10_land_51 ?_
      refine GX_ifb_ne hC 82 dX10_land_54 (by decide) (fun q => ?_) (fun q => ?_)
      · skip
        have h48 := ifT q h47
        exact hc43 (oi h48)
      · skip
        have h49 := ifF q h47
        refine GX_aload_n hC dX10_land_57 rfl ?_
        refine GX_getI hC fkX10_164 ol_62 rfl dX10_land_58 ?_
        refine GX_if_eq_P hC 75 dX10_land_61 (by decide) (fun q => ?_) (fun q => ?_)
        · skip
          have h50 := ifP q h49
          exact hc38 (oi h50)
        · skip
          have h51 := ifN q h49
          refine GX_aload_n hC dX10_land_64 rfl ?_
          refine GX_getI hC fkX10_133 ol_62 rfl dX10_land_65 ?_
          refine GX_aload_n hC dX10_land_68 rfl ?_
          refine GX_getI hC fkX10_136 ol_62 rfl dX10_land_69 ?_
          refine GX_icmp_ge_N hC 82 dX10_land_72 (by decide) (fun q => ?_) (fun q => ?_)
          · skip
            exact hc38 (cdT q h51)
          · skip
            exact hc43 (cdF q h51)
    intro m34 q52
    subst q52
    refine GX_aload_n hC dX10_land_82 rfl ?_
    obtain ⟨b53, e54, h55⟩ := ob h31
    refine GX_ldZ hC e54 fkX10_142 ol_62 rfl dX10_land_83 ?_
    refine GX_ifb_eq hC 98 dX10_land_86 (by decide) (fun q => ?_) (fun q => ?_)
    · skip
      have h56 := ifT q h55
      refine GX_sipush hC (-1000) dX10_land_89 rfl ?_
      refine GX_aload_n hC dX10_land_92 rfl ?_
      refine GX_getI hC fkX10_133 ol_62 rfl dX10_land_93 ?_
      refine GX_isub hC dX10_land_96 ?_
      exact GX_iretW hC hR dX10_land_97 (oi h56)
    · skip
      have h57 := ifF q h55
      refine GX_aload_n hC dX10_land_98 rfl ?_
      refine GX_aload_n hC dX10_land_99 rfl ?_
      refine GX_getR hC fkX10_74 ol_62 rfl dX10_land_100 ?_
      refine GX_iconst hC (bI true) dX10_land_103 rfl ?_
      obtain ⟨m58, e59, h60⟩ := ob h57
      refine GX_callV_v (st := []) hC (C_M_carryTo al_84 e59) okX10_carryTo lkX10_190 ol_62 rfl rfl (Nat.le_of_ble_eq_true rfl) (Nat.le_of_ble_eq_true rfl) hk rfl (Nat.le_of_ble_eq_true rfl) dX10_land_104 ?_
      refine GX_iconst hC 0 dX10_land_107 rfl ?_
      refine GX_istore_n hC [some (.ref (gad Γ 62)), some (.int d1), some (.int r6), some (.int 0)] dX10_land_108 (by decide) rfl rfl ?_
      obtain ⟨o61, e62, h63⟩ := ob h60
      have hR64 : ∀ res : Int32 × MI, Sum.inr res = o61 → res = (r0, mr) := by
        intro res q
        subst q
        have h63 := seR h63
        exact (oi h63)
      suffices hJ64 : ∀ (m67 : MI), Sum.inl m67 = o61 → GX Γ LAY 0 0 [some (.ref (gad Γ 62)), some (.int d1), some (.int r6), none] [] m67 151 by
        refine lp_walk (P := fun s => GX Γ LAY 0 0 [some (.ref (gad Γ 62)), some (.int d1), some (.int r6), some (.int s.1)] [] s.2 109) (fun s x hx64 hI64 hO64 => ?_) _ _ e62
        obtain ⟨k65, m66⟩ := s
        show GX Γ LAY 0 0 [some (.ref (gad Γ 62)), some (.int d1), some (.int r6), some (.int k65)] [] m66 109
        dsimp only [M_land_s2] at hx64
        refine GX_iload_n hC dX10_land_109 rfl ?_
        refine GX_aload_n hC dX10_land_110 rfl ?_
        refine GX_getI hC fkX10_164 ol_62 rfl dX10_land_111 ?_
        refine GX_icmp_ge_N hC 151 dX10_land_114 (by decide) (fun q => ?_) (fun q => ?_)
        · skip
          have h68 := ifP q hx64
          refine GX_aload_n hC dX10_land_117 rfl ?_
          refine GX_iload_n hC dX10_land_118 rfl ?_
          obtain ⟨⟨b69, m70⟩, e71, h72⟩ := ob h68
          refine GX_callV_i (st := []) hC (C_M_comes e71) okX10_comes lkX10_194 ol_62 rfl rfl (Nat.le_of_ble_eq_true rfl) (Nat.le_of_ble_eq_true rfl) hk rfl (Nat.le_of_ble_eq_true rfl) dX10_land_119 ?_
          refine GX_ifb_ne hC 145 dX10_land_122 (by decide) (fun q => ?_) (fun q => ?_)
          · skip
            have h73 := ifT q h72
            obtain ⟨i74, e75, h76⟩ := ob h73
            refine GX_iinc hC i74 [some (.ref (gad Γ 62)), some (.int d1), some (.int r6), some (.int i74)] dX10_land_145 rfl (oi e75) (by decide) rfl rfl ?_
            refine GX_goto hC 109 dX10_land_148 (by decide) ?_
            exact hI64 _ (oi h76).symm
          · skip
            have h77 := ifF q h72
            refine GX_aload_n hC dX10_land_125 rfl ?_
            refine GX_aload_n hC dX10_land_126 rfl ?_
            refine GX_getR hC fkX10_74 ol_62 rfl dX10_land_127 ?_
            refine GX_iconst hC (bI false) dX10_land_130 rfl ?_
            obtain ⟨m78, e79, h80⟩ := ob h77
            refine GX_callV_v (st := []) hC (C_M_carryTo al_84 e79) okX10_carryTo lkX10_190 ol_62 rfl rfl (Nat.le_of_ble_eq_true rfl) (Nat.le_of_ble_eq_true rfl) hk rfl (Nat.le_of_ble_eq_true rfl) dX10_land_131 ?_
            refine GX_sipush hC (-2000) dX10_land_134 rfl ?_
            refine GX_aload_n hC dX10_land_137 rfl ?_
            refine GX_getR hC fkX10_31 ol_62 rfl dX10_land_138 ?_
            refine GX_iload_n hC dX10_land_141 rfl ?_
            obtain ⟨x81, e82, h83⟩ := ob h80
            refine GX_ldA hC e82 al_70 dX10_land_142 ?_
            refine GX_isub hC dX10_land_143 ?_
            exact GX_iretW hC hR dX10_land_144 (hR64 _ (hO64 _ (oi h83).symm))
        · skip
          have h84 := ifN q hx64
          exact GX.le (hJ64 _ (hO64 _ (oi h84).symm)) ⟨rfl, ⟨rfl, ⟨rfl, trivial⟩⟩⟩
      intro m67 q85
      subst q85
      have h63 := seL h63
      refine GX_aload_n hC dX10_land_151 rfl ?_
      refine GX_getI hC fkX10_164 ol_62 rfl dX10_land_152 ?_
      exact GX_iretW hC hR dX10_land_155 (oi h63)
set_option maxRecDepth 100000 in
set_option maxHeartbeats 4000000 in
theorem C_M_barring {l : Launch} {f1 : Int32} {m2 : MI} {r0 : Int32}  (hf : M_barring f1 m2 = some r0) : Cn l yX10_barring cX10_barring 4 (some .int) 1 LAY (fun ad => .ref (ad 62) :: [.int f1]) m2 (fun _ => some (.int r0)) m2 := by
  refine Cn.of (fun ad => [some (.ref (ad 62)), some (.int f1), none, none]) (by decide +kernel) (fun _ => rfl) (fun _ => Nat.le_of_ble_eq_true rfl) (fun Γ hl hC hR hk => ?_)
  subst hl
  replace hC : CX Γ cX10_barring RX10 LAY 1 4 := hC
  dsimp only [M_barring] at hf
  refine GX_iconst hC 0 dX10_barring_0 rfl ?_
  refine GX_istore_n hC [some (.ref (gad Γ 62)), some (.int f1), some (.int 0), none] dX10_barring_1 (by decide) rfl rfl ?_
  refine GX_iconst hC 0 dX10_barring_2 rfl ?_
  refine GX_istore_n hC [some (.ref (gad Γ 62)), some (.int f1), some (.int 0), some (.int 0)] dX10_barring_3 (by decide) rfl rfl ?_
  obtain ⟨o3, e4, h5⟩ := ob hf
  suffices hJ6 : ∀ (bits9 : Int32), bits9 = o3 → GX Γ LAY 0 0 [some (.ref (gad Γ 62)), some (.int f1), some (.int bits9), none] [] m2 42 by
    refine lp_walk (P := fun s => GX Γ LAY 0 0 [some (.ref (gad Γ 62)), some (.int f1), some (.int s.1), some (.int s.2)] [] m2 4) (fun s x hx6 hI6 hO6 => ?_) _ _ e4
    obtain ⟨bits7, k8⟩ := s
    show GX Γ LAY 0 0 [some (.ref (gad Γ 62)), some (.int f1), some (.int bits7), some (.int k8)] [] m2 4
    dsimp only [M_barring_s1] at hx6
    refine GX_iload_n hC dX10_barring_4 rfl ?_
    refine GX_aload_n hC dX10_barring_5 rfl ?_
    refine GX_getI hC fkX10_103 ol_62 rfl dX10_barring_6 ?_
    refine GX_icmp_ge_N hC 42 dX10_barring_9 (by decide) (fun q => ?_) (fun q => ?_)
    · skip
      have h10 := ifP q hx6
      obtain ⟨x11, e12, h13⟩ := ob h10
      suffices hJ14 : GX Γ LAY 0 0 [some (.ref (gad Γ 62)), some (.int f1), some (.int bits7), some (.int k8)] [.int x11] m2 35 by
        obtain ⟨c15, e16, h17⟩ := ob e12
        have hc18 : true = c15 → GX Γ LAY 0 0 [some (.ref (gad Γ 62)), some (.int f1), some (.int bits7), some (.int k8)] [] m2 26 := by
          intro q
          have h19 := ifT q.symm h17
          refine GX_iload_n hC dX10_barring_26 rfl ?_
          refine GX_iconst hC 1 dX10_barring_27 rfl ?_
          refine GX_iload_n hC dX10_barring_28 rfl ?_
          refine GX_ishl hC dX10_barring_29 ?_
          refine GX_ior hC dX10_barring_30 ?_
          refine GX_goto hC 35 dX10_barring_31 (by decide) ?_
          exact GX_nm (oi h19) hJ14
        have hc20 : false = c15 → GX Γ LAY 0 0 [some (.ref (gad Γ 62)), some (.int f1), some (.int bits7), some (.int k8)] [] m2 34 := by
          intro q
          have h21 := ifF q.symm h17
          refine GX_iload_n hC dX10_barring_34 rfl ?_
          exact GX_nm (oi h21) hJ14
        refine GX_iload_n hC dX10_barring_12 rfl ?_
        refine GX_iload_n hC dX10_barring_13 rfl ?_
        refine GX_icmp_eq_N hC 34 dX10_barring_14 (by decide) (fun q => ?_) (fun q => ?_)
        · skip
          have h22 := ifP q e16
          refine GX_aload_n hC dX10_barring_17 rfl ?_
          refine GX_iload_n hC dX10_barring_18 rfl ?_
          refine GX_iload_n hC dX10_barring_19 rfl ?_
          obtain ⟨b23, e24, h25⟩ := ob h22
          refine GX_callV_i (st := []) hC (C_M_bars e24) okX10_bars lkX10_119 ol_62 rfl rfl (Nat.le_of_ble_eq_true rfl) (Nat.le_of_ble_eq_true rfl) hk rfl (Nat.le_of_ble_eq_true rfl) dX10_barring_20 ?_
          refine GX_ifb_eq hC 34 dX10_barring_23 (by decide) (fun q => ?_) (fun q => ?_)
          · skip
            exact hc18 (cbT q h25)
          · skip
            exact hc20 (cbF q h25)
        · skip
          have h26 := ifN q e16
          exact hc20 (oi h26)
      refine GX_istore_n hC [some (.ref (gad Γ 62)), some (.int f1), some (.int x11), some (.int k8)] dX10_barring_35 (by decide) rfl rfl ?_
      obtain ⟨i27, e28, h29⟩ := ob h13
      refine GX_iinc hC i27 [some (.ref (gad Γ 62)), some (.int f1), some (.int x11), some (.int i27)] dX10_barring_36 rfl (oi e28) (by decide) rfl rfl ?_
      refine GX_goto hC 4 dX10_barring_39 (by decide) ?_
      exact hI6 _ (oi h29).symm
    · skip
      have h30 := ifN q hx6
      exact GX.le (hJ6 _ (hO6 _ (oi h30).symm)) ⟨rfl, ⟨rfl, ⟨rfl, trivial⟩⟩⟩
  intro bits9 q31
  subst q31
  refine GX_iload_n hC dX10_barring_42 rfl ?_
  exact GX_iretR hC hR dX10_barring_43 (oi h5)
set_option maxRecDepth 100000 in
set_option maxHeartbeats 4000000 in
theorem C_M_field {l : Launch} {f1 : Int32} {what2 : Int32} {m3 : MI} {r0 : Int32} {mr : MI}  (hf : M_field f1 what2 m3 = some (r0, mr)) : Cn l yX10_field cX10_field 3 (some .int) 2 LAY (fun ad => .ref (ad 62) :: [.int f1, .int what2]) m3 (fun _ => some (.int r0)) mr := by
  refine Cn.of (fun ad => [some (.ref (ad 62)), some (.int f1), some (.int what2)]) (by decide +kernel) (fun _ => rfl) (fun _ => Nat.le_of_ble_eq_true rfl) (fun Γ hl hC hR hk => ?_)
  subst hl
  replace hC : CX Γ cX10_field RX10 LAY 2 3 := hC
  dsimp only [M_field] at hf
  refine GX_aload_n hC dX10_field_0 rfl ?_
  refine GX_iconst hC 0 dX10_field_1 rfl ?_
  obtain ⟨m4, e5, h6⟩ := ob hf
  refine GX_stF hC e5 fkX10_99 ftX10_10 ol_62 rfl dX10_field_2 ?_
  obtain ⟨c7, e8, h9⟩ := ob h6
  have hc10 : true = c7 → GX Γ LAY 0 0 [some (.ref (gad Γ 62)), some (.int f1), some (.int what2)] [] m4 25 := by
    intro q
    have h11 := ifT q.symm h9
    refine GX_iconst hC (-1) dX10_field_25 rfl ?_
    exact GX_iretW hC hR dX10_field_26 (oi h11)
  have hc12 : false = c7 → GX Γ LAY 0 0 [some (.ref (gad Γ 62)), some (.int f1), some (.int what2)] [] m4 27 := by
    intro q
    have h13 := ifF q.symm h9
    obtain ⟨x14, e15, h16⟩ := ob h13
    suffices hJ17 : GX Γ LAY 0 0 [some (.ref (gad Γ 62)), some (.int f1), some (.int what2)] [.int x14] m4 75 by
      refine GX_iload_n hC dX10_field_27 rfl ?_
      refine GX_if_ne_N hC 40 dX10_field_28 (by decide) (fun q => ?_) (fun q => ?_)
      · skip
        have h18 := ifP q e15
        refine GX_aload_n hC dX10_field_31 rfl ?_
        refine GX_getR hC fkX10_7 ol_62 rfl dX10_field_32 ?_
        refine GX_iload_n hC dX10_field_35 rfl ?_
        obtain ⟨x19, e20, h21⟩ := ob h18
        refine GX_ldA hC e20 al_63 dX10_field_36 ?_
        refine GX_goto hC 75 dX10_field_37 (by decide) ?_
        exact GX_nm (oi h21) hJ17
      · skip
        have h22 := ifN q e15
        obtain ⟨x23, e24, h25⟩ := ob h22
        suffices hJ26 : GX Γ LAY 0 0 [some (.ref (gad Γ 62)), some (.int f1), some (.int what2)] [.int x23] m4 75 by
          refine GX_iload_n hC dX10_field_40 rfl ?_
          refine GX_iconst hC 2 dX10_field_41 rfl ?_
          refine GX_icmp_ne_N hC 53 dX10_field_42 (by decide) (fun q => ?_) (fun q => ?_)
          · skip
            have h27 := ifP q e24
            refine GX_aload_n hC dX10_field_45 rfl ?_
            refine GX_iload_n hC dX10_field_46 rfl ?_
            obtain ⟨r28, e29, h30⟩ := ob h27
            refine GX_callV_i (st := []) hC (C_M_barring e29) okX10_barring lkX10_199 ol_62 rfl rfl (Nat.le_of_ble_eq_true rfl) (Nat.le_of_ble_eq_true rfl) hk rfl (Nat.le_of_ble_eq_true rfl) dX10_field_47 ?_
            refine GX_goto hC 75 dX10_field_50 (by decide) ?_
            exact GX_nm (oi h30) hJ26
          · skip
            have h31 := ifN q e24
            obtain ⟨x32, e33, h34⟩ := ob h31
            suffices hJ35 : GX Γ LAY 0 0 [some (.ref (gad Γ 62)), some (.int f1), some (.int what2)] [.int x32] m4 75 by
              refine GX_aload_n hC dX10_field_53 rfl ?_
              refine GX_getR hC fkX10_25 ol_62 rfl dX10_field_54 ?_
              refine GX_iload_n hC dX10_field_57 rfl ?_
              obtain ⟨x36, e37, h38⟩ := ob e33
              refine GX_ldA hC e37 al_68 dX10_field_58 ?_
              refine GX_if_ne_N hC 67 dX10_field_59 (by decide) (fun q => ?_) (fun q => ?_)
              · skip
                have h39 := ifP q h38
                refine GX_bipush hC (-4) dX10_field_62 rfl ?_
                refine GX_goto hC 75 dX10_field_64 (by decide) ?_
                exact GX_nm (oi h39) hJ35
              · skip
                have h40 := ifN q h38
                refine GX_aload_n hC dX10_field_67 rfl ?_
                refine GX_getR hC fkX10_25 ol_62 rfl dX10_field_68 ?_
                refine GX_iload_n hC dX10_field_71 rfl ?_
                obtain ⟨x41, e42, h43⟩ := ob h40
                refine GX_ldA hC e42 al_68 dX10_field_72 ?_
                refine GX_iconst hC 1 dX10_field_73 rfl ?_
                refine GX_isub hC dX10_field_74 ?_
                exact GX_nm (oi h43) hJ35
            exact GX_nm (oi h34) hJ26
        exact GX_nm (oi h25) hJ17
    exact GX_iretW hC hR dX10_field_75 (oi h16)
  refine GX_aload_n hC dX10_field_5 rfl ?_
  refine GX_iload_n hC dX10_field_6 rfl ?_
  obtain ⟨b44, e45, h46⟩ := ob e8
  refine GX_callV_i (st := []) hC (C_M_isField e45) okX10_isField lkX10_178 ol_62 rfl rfl (Nat.le_of_ble_eq_true rfl) (Nat.le_of_ble_eq_true rfl) hk rfl (Nat.le_of_ble_eq_true rfl) dX10_field_7 ?_
  refine GX_ifb_eq hC 25 dX10_field_10 (by decide) (fun q => ?_) (fun q => ?_)
  · skip
    have h47 := ifT q h46
    refine GX_iload_n hC dX10_field_13 rfl ?_
    refine GX_i2l hC dX10_field_14 ?_
    refine GX_lconst hC 0 dX10_field_15 rfl ?_
    refine GX_ldc2 hC 2 kcX10_197 dX10_field_16 ?_
    obtain ⟨b48, e49, h50⟩ := ob h47
    refine GX_callS_i (st := []) hC (C_M_in e49) okX10_in lkX10_106 rfl (Nat.le_of_ble_eq_true rfl) (Nat.le_of_ble_eq_true rfl) hk rfl (Nat.le_of_ble_eq_true rfl) dX10_field_19 ?_
    refine GX_ifb_ne hC 27 dX10_field_22 (by decide) (fun q => ?_) (fun q => ?_)
    · skip
      exact hc12 (cbnT q h50)
    · skip
      exact hc10 (cbnF q h50)
  · skip
    have h51 := ifF q h46
    exact hc10 (oi h51)
set_option maxRecDepth 100000 in
set_option maxHeartbeats 4000000 in
theorem C_M_touch {l : Launch} {a1 : Int32} {b2 : Int32} {m3 : MI} {r0 : Int32} {mr : MI}  (hf : M_touch a1 b2 m3 = some (r0, mr)) : Cn l yX10_touch cX10_touch 3 (some .int) 2 LAY (fun ad => .ref (ad 62) :: [.int a1, .int b2]) m3 (fun _ => some (.int r0)) mr := by
  refine Cn.of (fun ad => [some (.ref (ad 62)), some (.int a1), some (.int b2)]) (by decide +kernel) (fun _ => rfl) (fun _ => Nat.le_of_ble_eq_true rfl) (fun Γ hl hC hR hk => ?_)
  subst hl
  replace hC : CX Γ cX10_touch RX10 LAY 2 3 := hC
  dsimp only [M_touch] at hf
  refine GX_aload_n hC dX10_touch_0 rfl ?_
  refine GX_iconst hC 0 dX10_touch_1 rfl ?_
  obtain ⟨m4, e5, h6⟩ := ob hf
  refine GX_stF hC e5 fkX10_99 ftX10_10 ol_62 rfl dX10_touch_2 ?_
  obtain ⟨x7, e8, h9⟩ := ob h6
  suffices hJ10 : GX Γ LAY 0 0 [some (.ref (gad Γ 62)), some (.int a1), some (.int b2)] [.int x7] m4 41 by
    obtain ⟨c11, e12, h13⟩ := ob e8
    have hc14 : true = c11 → GX Γ LAY 0 0 [some (.ref (gad Γ 62)), some (.int a1), some (.int b2)] [] m4 26 := by
      intro q
      have h15 := ifT q.symm h13
      refine GX_aload_n hC dX10_touch_26 rfl ?_
      refine GX_getR hC fkX10_13 ol_62 rfl dX10_touch_27 ?_
      refine GX_bipush hC 6 dX10_touch_30 rfl ?_
      refine GX_iload_n hC dX10_touch_32 rfl ?_
      refine GX_imul hC dX10_touch_33 ?_
      refine GX_iload_n hC dX10_touch_34 rfl ?_
      refine GX_iadd hC dX10_touch_35 ?_
      obtain ⟨x16, e17, h18⟩ := ob h15
      refine GX_ldA hC e17 al_64 dX10_touch_36 ?_
      refine GX_goto hC 41 dX10_touch_37 (by decide) ?_
      exact GX_nm (oi h18) hJ10
    have hc19 : false = c11 → GX Γ LAY 0 0 [some (.ref (gad Γ 62)), some (.int a1), some (.int b2)] [] m4 40 := by
      intro q
      have h20 := ifF q.symm h13
      refine GX_iconst hC (-1) dX10_touch_40 rfl ?_
      exact GX_nm (oi h20) hJ10
    refine GX_aload_n hC dX10_touch_5 rfl ?_
    refine GX_iload_n hC dX10_touch_6 rfl ?_
    obtain ⟨b21, e22, h23⟩ := ob e12
    refine GX_callV_i (st := []) hC (C_M_isField e22) okX10_isField lkX10_178 ol_62 rfl rfl (Nat.le_of_ble_eq_true rfl) (Nat.le_of_ble_eq_true rfl) hk rfl (Nat.le_of_ble_eq_true rfl) dX10_touch_7 ?_
    refine GX_ifb_eq hC 40 dX10_touch_10 (by decide) (fun q => ?_) (fun q => ?_)
    · skip
      have h24 := ifT q h23
      refine GX_aload_n hC dX10_touch_13 rfl ?_
      refine GX_iload_n hC dX10_touch_14 rfl ?_
      obtain ⟨b25, e26, h27⟩ := ob h24
      refine GX_callV_i (st := []) hC (C_M_isField e26) okX10_isField lkX10_178 ol_62 rfl rfl (Nat.le_of_ble_eq_true rfl) (Nat.le_of_ble_eq_true rfl) hk rfl (Nat.le_of_ble_eq_true rfl) dX10_touch_15 ?_
      refine GX_ifb_eq hC 40 dX10_touch_18 (by decide) (fun q => ?_) (fun q => ?_)
      · skip
        have h28 := ifT q h27
        refine GX_iload_n hC dX10_touch_21 rfl ?_
        refine GX_iload_n hC dX10_touch_22 rfl ?_
        refine GX_icmp_eq_N hC 40 dX10_touch_23 (by decide) (fun q => ?_) (fun q => ?_)
        · skip
          exact hc14 (cdT q h28)
        · skip
          exact hc19 (cdF q h28)
      · skip
        have h29 := ifF q h27
        exact hc19 (oi h29)
    · skip
      have h30 := ifF q h23
      exact hc19 (oi h30)
  exact GX_iretW hC hR dX10_touch_41 (oi h9)
set_option maxRecDepth 100000 in
set_option maxHeartbeats 4000000 in
theorem C_M_ownedBy {l : Launch} {p1 : Int32} {m2 : MI} {r0 : Int32}  (hf : M_ownedBy p1 m2 = some r0) : Cn l yX10_ownedBy cX10_ownedBy 4 (some .int) 0 LAY (fun ad => .ref (ad 62) :: [.int p1]) m2 (fun _ => some (.int r0)) m2 := by
  refine Cn.of (fun ad => [some (.ref (ad 62)), some (.int p1), none, none]) (by decide +kernel) (fun _ => rfl) (fun _ => Nat.le_of_ble_eq_true rfl) (fun Γ hl hC hR hk => ?_)
  subst hl
  replace hC : CX Γ cX10_ownedBy RX10 LAY 0 4 := hC
  dsimp only [M_ownedBy] at hf
  refine GX_iconst hC 0 dX10_ownedBy_0 rfl ?_
  refine GX_istore_n hC [some (.ref (gad Γ 62)), some (.int p1), some (.int 0), none] dX10_ownedBy_1 (by decide) rfl rfl ?_
  refine GX_iconst hC 0 dX10_ownedBy_2 rfl ?_
  refine GX_istore_n hC [some (.ref (gad Γ 62)), some (.int p1), some (.int 0), some (.int 0)] dX10_ownedBy_3 (by decide) rfl rfl ?_
  obtain ⟨o3, e4, h5⟩ := ob hf
  suffices hJ6 : ∀ (bits9 : Int32), bits9 = o3 → GX Γ LAY 0 0 [some (.ref (gad Γ 62)), some (.int p1), some (.int bits9), none] [] m2 40 by
    refine lp_walk (P := fun s => GX Γ LAY 0 0 [some (.ref (gad Γ 62)), some (.int p1), some (.int s.1), some (.int s.2)] [] m2 4) (fun s x hx6 hI6 hO6 => ?_) _ _ e4
    obtain ⟨bits7, f8⟩ := s
    show GX Γ LAY 0 0 [some (.ref (gad Γ 62)), some (.int p1), some (.int bits7), some (.int f8)] [] m2 4
    dsimp only [M_ownedBy_s1] at hx6
    refine GX_iload_n hC dX10_ownedBy_4 rfl ?_
    refine GX_aload_n hC dX10_ownedBy_5 rfl ?_
    refine GX_getI hC fkX10_103 ol_62 rfl dX10_ownedBy_6 ?_
    refine GX_icmp_ge_N hC 40 dX10_ownedBy_9 (by decide) (fun q => ?_) (fun q => ?_)
    · skip
      have h10 := ifP q hx6
      obtain ⟨x11, e12, h13⟩ := ob h10
      suffices hJ14 : GX Γ LAY 0 0 [some (.ref (gad Γ 62)), some (.int p1), some (.int bits7), some (.int f8)] [.int x11] m2 33 by
        refine GX_aload_n hC dX10_ownedBy_12 rfl ?_
        refine GX_getR hC fkX10_25 ol_62 rfl dX10_ownedBy_13 ?_
        refine GX_iload_n hC dX10_ownedBy_16 rfl ?_
        obtain ⟨x15, e16, h17⟩ := ob e12
        refine GX_ldA hC e16 al_68 dX10_ownedBy_17 ?_
        refine GX_iload_n hC dX10_ownedBy_18 rfl ?_
        refine GX_iconst hC 1 dX10_ownedBy_19 rfl ?_
        refine GX_iadd hC dX10_ownedBy_20 ?_
        refine GX_icmp_ne_N hC 32 dX10_ownedBy_21 (by decide) (fun q => ?_) (fun q => ?_)
        · skip
          have h18 := ifP q h17
          refine GX_iload_n hC dX10_ownedBy_24 rfl ?_
          refine GX_iconst hC 1 dX10_ownedBy_25 rfl ?_
          refine GX_iload_n hC dX10_ownedBy_26 rfl ?_
          refine GX_ishl hC dX10_ownedBy_27 ?_
          refine GX_ior hC dX10_ownedBy_28 ?_
          refine GX_goto hC 33 dX10_ownedBy_29 (by decide) ?_
          exact GX_nm (oi h18) hJ14
        · skip
          have h19 := ifN q h17
          refine GX_iload_n hC dX10_ownedBy_32 rfl ?_
          exact GX_nm (oi h19) hJ14
      refine GX_istore_n hC [some (.ref (gad Γ 62)), some (.int p1), some (.int x11), some (.int f8)] dX10_ownedBy_33 (by decide) rfl rfl ?_
      obtain ⟨i20, e21, h22⟩ := ob h13
      refine GX_iinc hC i20 [some (.ref (gad Γ 62)), some (.int p1), some (.int x11), some (.int i20)] dX10_ownedBy_34 rfl (oi e21) (by decide) rfl rfl ?_
      refine GX_goto hC 4 dX10_ownedBy_37 (by decide) ?_
      exact hI6 _ (oi h22).symm
    · skip
      have h23 := ifN q hx6
      exact GX.le (hJ6 _ (hO6 _ (oi h23).symm)) ⟨rfl, ⟨rfl, ⟨rfl, trivial⟩⟩⟩
  intro bits9 q24
  subst q24
  refine GX_iload_n hC dX10_ownedBy_40 rfl ?_
  exact GX_iretR hC hR dX10_ownedBy_41 (oi h5)
set_option maxRecDepth 100000 in
set_option maxHeartbeats 4000000 in
theorem C_M_person {l : Launch} {p1 : Int32} {what2 : Int32} {m3 : MI} {r0 : Int32} {mr : MI}  (hf : M_person p1 what2 m3 = some (r0, mr)) : Cn l yX10_person cX10_person 3 (some .int) 2 LAY (fun ad => .ref (ad 62) :: [.int p1, .int what2]) m3 (fun _ => some (.int r0)) mr := by
  refine Cn.of (fun ad => [some (.ref (ad 62)), some (.int p1), some (.int what2)]) (by decide +kernel) (fun _ => rfl) (fun _ => Nat.le_of_ble_eq_true rfl) (fun Γ hl hC hR hk => ?_)
  subst hl
  replace hC : CX Γ cX10_person RX10 LAY 2 3 := hC
  dsimp only [M_person] at hf
  refine GX_aload_n hC dX10_person_0 rfl ?_
  refine GX_iconst hC 0 dX10_person_1 rfl ?_
  obtain ⟨m4, e5, h6⟩ := ob hf
  refine GX_stF hC e5 fkX10_99 ftX10_10 ol_62 rfl dX10_person_2 ?_
  obtain ⟨c7, e8, h9⟩ := ob h6
  have hc10 : true = c7 → GX Γ LAY 0 0 [some (.ref (gad Γ 62)), some (.int p1), some (.int what2)] [] m4 25 := by
    intro q
    have h11 := ifT q.symm h9
    refine GX_iconst hC (-1) dX10_person_25 rfl ?_
    exact GX_iretW hC hR dX10_person_26 (oi h11)
  have hc12 : false = c7 → GX Γ LAY 0 0 [some (.ref (gad Γ 62)), some (.int p1), some (.int what2)] [] m4 27 := by
    intro q
    have h13 := ifF q.symm h9
    refine GX_aload_n hC dX10_person_27 rfl ?_
    obtain ⟨m14, e15, h16⟩ := ob h13
    refine GX_callV_v (st := []) hC (C_M_takeNow e15) okX10_takeNow lkX10_204 ol_62 rfl rfl (Nat.le_of_ble_eq_true rfl) (Nat.le_of_ble_eq_true rfl) hk rfl (Nat.le_of_ble_eq_true rfl) dX10_person_28 ?_
    obtain ⟨x17, e18, h19⟩ := ob h16
    suffices hJ20 : GX Γ LAY 0 0 [some (.ref (gad Γ 62)), some (.int p1), some (.int what2)] [.int x17] m14 90 by
      refine GX_iload_n hC dX10_person_31 rfl ?_
      refine GX_if_ne_N hC 44 dX10_person_32 (by decide) (fun q => ?_) (fun q => ?_)
      · skip
        have h21 := ifP q e18
        refine GX_aload_n hC dX10_person_35 rfl ?_
        refine GX_getR hC fkX10_16 ol_62 rfl dX10_person_36 ?_
        refine GX_iload_n hC dX10_person_39 rfl ?_
        obtain ⟨x22, e23, h24⟩ := ob h21
        refine GX_ldA hC e23 al_65 dX10_person_40 ?_
        refine GX_goto hC 90 dX10_person_41 (by decide) ?_
        exact GX_nm (oi h24) hJ20
      · skip
        have h25 := ifN q e18
        obtain ⟨x26, e27, h28⟩ := ob h25
        suffices hJ29 : GX Γ LAY 0 0 [some (.ref (gad Γ 62)), some (.int p1), some (.int what2)] [.int x26] m14 90 by
          refine GX_iload_n hC dX10_person_44 rfl ?_
          refine GX_iconst hC 1 dX10_person_45 rfl ?_
          refine GX_icmp_ne_N hC 72 dX10_person_46 (by decide) (fun q => ?_) (fun q => ?_)
          · skip
            have h30 := ifP q e27
            obtain ⟨x31, e32, h33⟩ := ob h30
            suffices hJ34 : GX Γ LAY 0 0 [some (.ref (gad Γ 62)), some (.int p1), some (.int what2)] [.int x31] m14 90 by
              refine GX_aload_n hC dX10_person_49 rfl ?_
              refine GX_getR hC fkX10_19 ol_62 rfl dX10_person_50 ?_
              refine GX_iload_n hC dX10_person_53 rfl ?_
              obtain ⟨x35, e36, h37⟩ := ob e32
              refine GX_ldA hC e36 al_66 dX10_person_54 ?_
              refine GX_if_ge_N hC 63 dX10_person_55 (by decide) (fun q => ?_) (fun q => ?_)
              · skip
                have h38 := ifP q h37
                refine GX_bipush hC (-4) dX10_person_58 rfl ?_
                refine GX_goto hC 90 dX10_person_60 (by decide) ?_
                exact GX_nm (oi h38) hJ34
              · skip
                have h39 := ifN q h37
                refine GX_aload_n hC dX10_person_63 rfl ?_
                refine GX_getR hC fkX10_19 ol_62 rfl dX10_person_64 ?_
                refine GX_iload_n hC dX10_person_67 rfl ?_
                obtain ⟨x40, e41, h42⟩ := ob h39
                refine GX_ldA hC e41 al_66 dX10_person_68 ?_
                refine GX_goto hC 90 dX10_person_69 (by decide) ?_
                exact GX_nm (oi h42) hJ34
            exact GX_nm (oi h33) hJ29
          · skip
            have h43 := ifN q e27
            obtain ⟨x44, e45, h46⟩ := ob h43
            suffices hJ47 : GX Γ LAY 0 0 [some (.ref (gad Γ 62)), some (.int p1), some (.int what2)] [.int x44] m14 90 by
              refine GX_iload_n hC dX10_person_72 rfl ?_
              refine GX_iconst hC 2 dX10_person_73 rfl ?_
              refine GX_icmp_ne_N hC 85 dX10_person_74 (by decide) (fun q => ?_) (fun q => ?_)
              · skip
                have h48 := ifP q e45
                refine GX_aload_n hC dX10_person_77 rfl ?_
                refine GX_iload_n hC dX10_person_78 rfl ?_
                obtain ⟨r49, e50, h51⟩ := ob h48
                refine GX_callV_i (st := []) hC (C_M_ownedBy e50) okX10_ownedBy lkX10_207 ol_62 rfl rfl (Nat.le_of_ble_eq_true rfl) (Nat.le_of_ble_eq_true rfl) hk rfl (Nat.le_of_ble_eq_true rfl) dX10_person_79 ?_
                refine GX_goto hC 90 dX10_person_82 (by decide) ?_
                exact GX_nm (oi h51) hJ47
              · skip
                have h52 := ifN q e45
                refine GX_aload_n hC dX10_person_85 rfl ?_
                refine GX_iload_n hC dX10_person_86 rfl ?_
                obtain ⟨r53, e54, h55⟩ := ob h52
                refine GX_callV_i (st := []) hC (C_M_worthOf e54) okX10_worthOf lkX10_129 ol_62 rfl rfl (Nat.le_of_ble_eq_true rfl) (Nat.le_of_ble_eq_true rfl) hk rfl (Nat.le_of_ble_eq_true rfl) dX10_person_87 ?_
                exact GX_nm (oi h55) hJ47
            exact GX_nm (oi h46) hJ29
        exact GX_nm (oi h28) hJ20
    exact GX_iretW hC hR dX10_person_90 (oi h19)
  refine GX_aload_n hC dX10_person_5 rfl ?_
  refine GX_iload_n hC dX10_person_6 rfl ?_
  obtain ⟨b56, e57, h58⟩ := ob e8
  refine GX_callV_i (st := []) hC (C_M_isPerson e57) okX10_isPerson lkX10_181 ol_62 rfl rfl (Nat.le_of_ble_eq_true rfl) (Nat.le_of_ble_eq_true rfl) hk rfl (Nat.le_of_ble_eq_true rfl) dX10_person_7 ?_
  refine GX_ifb_eq hC 25 dX10_person_10 (by decide) (fun q => ?_) (fun q => ?_)
  · skip
    have h59 := ifT q h58
    refine GX_iload_n hC dX10_person_13 rfl ?_
    refine GX_i2l hC dX10_person_14 ?_
    refine GX_lconst hC 0 dX10_person_15 rfl ?_
    refine GX_ldc2 hC 3 kcX10_202 dX10_person_16 ?_
    obtain ⟨b60, e61, h62⟩ := ob h59
    refine GX_callS_i (st := []) hC (C_M_in e61) okX10_in lkX10_106 rfl (Nat.le_of_ble_eq_true rfl) (Nat.le_of_ble_eq_true rfl) hk rfl (Nat.le_of_ble_eq_true rfl) dX10_person_19 ?_
    refine GX_ifb_ne hC 27 dX10_person_22 (by decide) (fun q => ?_) (fun q => ?_)
    · skip
      exact hc12 (cbnT q h62)
    · skip
      exact hc10 (cbnF q h62)
  · skip
    have h63 := ifF q h58
    exact hc10 (oi h63)
set_option maxRecDepth 100000 in
set_option maxHeartbeats 4000000 in
theorem C_M_worth {l : Launch} {p1 : Int32} {f2 : Int32} {m3 : MI} {r0 : Int32} {mr : MI}  (hf : M_worth p1 f2 m3 = some (r0, mr)) : Cn l yX10_worth cX10_worth 3 (some .int) 2 LAY (fun ad => .ref (ad 62) :: [.int p1, .int f2]) m3 (fun _ => some (.int r0)) mr := by
  refine Cn.of (fun ad => [some (.ref (ad 62)), some (.int p1), some (.int f2)]) (by decide +kernel) (fun _ => rfl) (fun _ => Nat.le_of_ble_eq_true rfl) (fun Γ hl hC hR hk => ?_)
  subst hl
  replace hC : CX Γ cX10_worth RX10 LAY 2 3 := hC
  dsimp only [M_worth] at hf
  refine GX_aload_n hC dX10_worth_0 rfl ?_
  refine GX_iconst hC 0 dX10_worth_1 rfl ?_
  obtain ⟨m4, e5, h6⟩ := ob hf
  refine GX_stF hC e5 fkX10_99 ftX10_10 ol_62 rfl dX10_worth_2 ?_
  obtain ⟨x7, e8, h9⟩ := ob h6
  suffices hJ10 : GX Γ LAY 0 0 [some (.ref (gad Γ 62)), some (.int p1), some (.int f2)] [.int x7] m4 36 by
    obtain ⟨c11, e12, h13⟩ := ob e8
    have hc14 : true = c11 → GX Γ LAY 0 0 [some (.ref (gad Γ 62)), some (.int p1), some (.int f2)] [] m4 21 := by
      intro q
      have h15 := ifT q.symm h13
      refine GX_aload_n hC dX10_worth_21 rfl ?_
      refine GX_getR hC fkX10_22 ol_62 rfl dX10_worth_22 ?_
      refine GX_bipush hC 6 dX10_worth_25 rfl ?_
      refine GX_iload_n hC dX10_worth_27 rfl ?_
      refine GX_imul hC dX10_worth_28 ?_
      refine GX_iload_n hC dX10_worth_29 rfl ?_
      refine GX_iadd hC dX10_worth_30 ?_
      obtain ⟨x16, e17, h18⟩ := ob h15
      refine GX_ldA hC e17 al_67 dX10_worth_31 ?_
      refine GX_goto hC 36 dX10_worth_32 (by decide) ?_
      exact GX_nm (oi h18) hJ10
    have hc19 : false = c11 → GX Γ LAY 0 0 [some (.ref (gad Γ 62)), some (.int p1), some (.int f2)] [] m4 35 := by
      intro q
      have h20 := ifF q.symm h13
      refine GX_iconst hC (-1) dX10_worth_35 rfl ?_
      exact GX_nm (oi h20) hJ10
    refine GX_aload_n hC dX10_worth_5 rfl ?_
    refine GX_iload_n hC dX10_worth_6 rfl ?_
    obtain ⟨b21, e22, h23⟩ := ob e12
    refine GX_callV_i (st := []) hC (C_M_isPerson e22) okX10_isPerson lkX10_181 ol_62 rfl rfl (Nat.le_of_ble_eq_true rfl) (Nat.le_of_ble_eq_true rfl) hk rfl (Nat.le_of_ble_eq_true rfl) dX10_worth_7 ?_
    refine GX_ifb_eq hC 35 dX10_worth_10 (by decide) (fun q => ?_) (fun q => ?_)
    · skip
      have h24 := ifT q h23
      refine GX_aload_n hC dX10_worth_13 rfl ?_
      refine GX_iload_n hC dX10_worth_14 rfl ?_
      obtain ⟨b25, e26, h27⟩ := ob h24
      refine GX_callV_i (st := []) hC (C_M_isField e26) okX10_isField lkX10_178 ol_62 rfl rfl (Nat.le_of_ble_eq_true rfl) (Nat.le_of_ble_eq_true rfl) hk rfl (Nat.le_of_ble_eq_true rfl) dX10_worth_15 ?_
      refine GX_ifb_eq hC 35 dX10_worth_18 (by decide) (fun q => ?_) (fun q => ?_)
      · skip
        exact hc14 (cbT q h27)
      · skip
        exact hc19 (cbF q h27)
    · skip
      have h28 := ifF q h23
      exact hc19 (oi h28)
  exact GX_iretW hC hR dX10_worth_36 (oi h9)
