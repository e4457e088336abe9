set_option maxRecDepth 100000 in
set_option maxHeartbeats 4000000 in
theorem C_N_land {l : Launch} {d1 : Int32} {m2 : MI} {r0 : Int32} {mr : MI}  (hf : N_land d1 m2 = some (r0, mr)) : Cn l yX9_land cX9_land 6 (some .int) 6 LAY (fun ad => .ref (ad 0) :: [.int d1]) m2 (fun _ => some (.int r0)) mr := by
  refine Cn.of (fun ad => [some (.ref (ad 0)), some (.int d1), none, none, none, none]) (by decide +kernel) (fun _ => rfl) (fun _ => Nat.le_of_ble_eq_true rfl) (fun Γ hl hC hR hk => ?_)
  subst hl
  replace hC : CX Γ cX9_land RX9 LAY 6 6 := hC
  dsimp only [N_land] at hf
  refine GX_aload_n hC dX9_land_0 rfl ?_
  refine GX_iload_n hC dX9_land_1 rfl ?_
  rcases hs3 : N_shelfAt d1 with _ | s4
  · skip
    have h5 := onNn hs3 hf
    refine GX_callV_n (st := []) hC (C_N_shelfAt_n hs3) okX9_shelfAt lkX9_75 ol_0 rfl rfl (Nat.le_of_ble_eq_true rfl) (Nat.le_of_ble_eq_true rfl) hk rfl (Nat.le_of_ble_eq_true rfl) dX9_land_2 ?_
    refine GX_astore_nN hC [some (.ref (gad Γ 0)), some (.int d1), some (.null), none, none, none] dX9_land_5 (by decide) rfl rfl ?_
    refine GX_aload_nN hC dX9_land_6 rfl ?_
    refine GX_ifnonnullN hC dX9_land_7 ?_
    refine GX_iconst hC (-1) dX9_land_10 rfl ?_
    exact GX_iretW hC hR dX9_land_11 (oi h5)
  · skip
    have h6 := onNs hs3 hf
    refine GX_callV_r (st := []) hC (C_N_shelfAt_s hs3) okX9_shelfAt lkX9_75 ol_0 rfl rfl (Nat.le_of_ble_eq_true rfl) (Nat.le_of_ble_eq_true rfl) hk rfl (Nat.le_of_ble_eq_true rfl) dX9_land_2 ?_
    have hsh7 := isShelf_at hs3
    refine GX_astore_n hC [some (.ref (gad Γ 0)), some (.int d1), some (.ref (gad Γ s4)), none, none, none] dX9_land_5 (by decide) rfl rfl ?_
    refine GX_aload_n hC dX9_land_6 rfl ?_
    refine GX_ifnonnull hC 12 dX9_land_7 (by decide) ?_
    refine GX_aload_n hC dX9_land_12 rfl ?_
    obtain ⟨r8, e9, h10⟩ := ob h6
    refine GX_callV_i (st := []) hC (C_Shelf_bytesRefusal hsh7 e9) okX8_bytesRefusal lkX9_79 (olShelf hsh7) rfl rfl (Nat.le_of_ble_eq_true rfl) (Nat.le_of_ble_eq_true rfl) hk rfl (Nat.le_of_ble_eq_true rfl) dX9_land_13 ?_
    refine GX_istore_n hC [some (.ref (gad Γ 0)), some (.int d1), some (.ref (gad Γ s4)), some (.int r8), none, none] dX9_land_16 (by decide) rfl rfl ?_
    refine GX_iload_n hC dX9_land_17 rfl ?_
    refine GX_if_eq_N hC 23 dX9_land_18 (by decide) (fun q => ?_) (fun q => ?_)
    · skip
      have h11 := ifP q h10
      refine GX_iload_n hC dX9_land_21 rfl ?_
      exact GX_iretW hC hR dX9_land_22 (oi h11)
    · skip
      have h12 := ifN q h10
      refine GX_aload_n hC dX9_land_23 rfl ?_
      refine GX_getR hC fkX9_35 ol_0 rfl dX9_land_24 ?_
      refine GX_aload_n hC dX9_land_27 rfl ?_
      obtain ⟨⟨r13, m14⟩, e15, h16⟩ := ob h12
      refine GX_callV_i (st := []) hC (C_LandReader_countStatements hsh7 e15) okX3_countStatements lkX9_83 ol_23 rfl rfl (Nat.le_of_ble_eq_true rfl) (Nat.le_of_ble_eq_true rfl) hk rfl (Nat.le_of_ble_eq_true rfl) dX9_land_28 ?_
      refine GX_istore hC [some (.ref (gad Γ 0)), some (.int d1), some (.ref (gad Γ s4)), some (.int r8), some (.int r13), none] dX9_land_31 (by decide) rfl rfl ?_
      refine GX_iload hC dX9_land_33 rfl ?_
      refine GX_if_ge_N hC 41 dX9_land_35 (by decide) (fun q => ?_) (fun q => ?_)
      · skip
        have h17 := ifP q h16
        refine GX_iload hC dX9_land_38 rfl ?_
        exact GX_iretW hC hR dX9_land_40 (oi h17)
      · skip
        have h18 := ifN q h16
        refine GX_aload_n hC dX9_land_41 rfl ?_
        refine GX_getR hC fkX9_16 ol_0 rfl dX9_land_42 ?_
        refine GX_aload_n hC dX9_land_45 rfl ?_
        refine GX_getR hC fkX9_10 ol_0 rfl dX9_land_46 ?_
        obtain ⟨m19, e20, h21⟩ := ob h18
        refine GX_callV_v (st := []) hC (C_Land_copyFrom isLand_8 isLand_1 e20) okX2_copyFrom lkX9_87 (olLand isLand_8) rfl rfl (Nat.le_of_ble_eq_true rfl) (Nat.le_of_ble_eq_true rfl) hk rfl (Nat.le_of_ble_eq_true rfl) dX9_land_49 ?_
        refine GX_aload_n hC dX9_land_52 rfl ?_
        refine GX_getR hC fkX9_35 ol_0 rfl dX9_land_53 ?_
        refine GX_aload_n hC dX9_land_56 rfl ?_
        refine GX_getR hC fkX9_16 ol_0 rfl dX9_land_57 ?_
        refine GX_aload_n hC dX9_land_60 rfl ?_
        refine GX_iload hC dX9_land_61 rfl ?_
        obtain ⟨⟨r22, m23⟩, e24, h25⟩ := ob h21
        refine GX_callV_i (st := []) hC (C_LandReader_carryOut isLand_8 hsh7 e24) okX3_carryOut lkX9_91 ol_23 rfl rfl (Nat.le_of_ble_eq_true rfl) (Nat.le_of_ble_eq_true rfl) hk rfl (Nat.le_of_ble_eq_true rfl) dX9_land_63 ?_
        refine GX_istore hC [some (.ref (gad Γ 0)), some (.int d1), some (.ref (gad Γ s4)), some (.int r8), some (.int r13), some (.int r22)] dX9_land_66 (by decide) rfl rfl ?_
        refine GX_iload hC dX9_land_68 rfl ?_
        refine GX_if_ge_N hC 76 dX9_land_70 (by decide) (fun q => ?_) (fun q => ?_)
        · skip
          have h26 := ifP q h25
          refine GX_iload hC dX9_land_73 rfl ?_
          exact GX_iretW hC hR dX9_land_75 (oi h26)
        · skip
          have h27 := ifN q h25
          refine GX_aload_n hC dX9_land_76 rfl ?_
          refine GX_getR hC fkX9_10 ol_0 rfl dX9_land_77 ?_
          refine GX_aload_n hC dX9_land_80 rfl ?_
          refine GX_getR hC fkX9_16 ol_0 rfl dX9_land_81 ?_
          obtain ⟨m28, e29, h30⟩ := ob h27
          refine GX_callV_v (st := []) hC (C_Land_copyFrom isLand_1 isLand_8 e29) okX2_copyFrom lkX9_87 (olLand isLand_1) rfl rfl (Nat.le_of_ble_eq_true rfl) (Nat.le_of_ble_eq_true rfl) hk rfl (Nat.le_of_ble_eq_true rfl) dX9_land_84 ?_
          refine GX_iload hC dX9_land_87 rfl ?_
          exact GX_iretW hC hR dX9_land_89 (oi h30)
set_option maxRecDepth 100000 in
set_option maxHeartbeats 4000000 in
theorem C_N_orNone {l : Launch} {person1 : Int32} {μ0 : MI} {r0 : Int32}  (hf : N_orNone person1 = some r0) : Cn l yX9_orNone cX9_orNone 1 (some .int) 0 LAY (fun ad => [.int person1]) μ0 (fun _ => some (.int r0)) μ0 := by
  refine Cn.of (fun ad => [some (.int person1)]) (by decide +kernel) (fun _ => rfl) (fun _ => Nat.le_of_ble_eq_true rfl) (fun Γ hl hC hR hk => ?_)
  subst hl
  replace hC : CX Γ cX9_orNone RX9 LAY 0 1 := hC
  dsimp only [N_orNone] at hf
  obtain ⟨x2, e3, h4⟩ := ob hf
  suffices hJ5 : GX Γ LAY 0 0 [some (.int person1)] [.int x2] μ0 12 by
    refine GX_iload_n hC dX9_orNone_0 rfl ?_
    refine GX_bipush hC 9 dX9_orNone_1 rfl ?_
    refine GX_icmp_ne_N hC 11 dX9_orNone_3 (by decide) (fun q => ?_) (fun q => ?_)
    · skip
      have h6 := ifP q e3
      refine GX_bipush hC (-4) dX9_orNone_6 rfl ?_
      refine GX_goto hC 12 dX9_orNone_8 (by decide) ?_
      exact GX_nm (oi h6) hJ5
    · skip
      have h7 := ifN q e3
      refine GX_iload_n hC dX9_orNone_11 rfl ?_
      exact GX_nm (oi h7) hJ5
  exact GX_iretR hC hR dX9_orNone_12 (oi h4)
set_option maxRecDepth 100000 in
set_option maxHeartbeats 4000000 in
theorem C_N_field {l : Launch} {field1 : Int32} {what2 : Int32} {m3 : MI} {r0 : Int32}  (hf : N_field field1 what2 m3 = some r0) : Cn l yX9_field cX9_field 3 (some .int) 3 LAY (fun ad => .ref (ad 0) :: [.int field1, .int what2]) m3 (fun _ => some (.int r0)) m3 := by
  refine Cn.of (fun ad => [some (.ref (ad 0)), some (.int field1), some (.int what2)]) (by decide +kernel) (fun _ => rfl) (fun _ => Nat.le_of_ble_eq_true rfl) (fun Γ hl hC hR hk => ?_)
  subst hl
  replace hC : CX Γ cX9_field RX9 LAY 3 3 := hC
  dsimp only [N_field] at hf
  obtain ⟨c4, e5, h6⟩ := ob hf
  have hc7 : true = c4 → GX Γ LAY 0 0 [some (.ref (gad Γ 0)), some (.int field1), some (.int what2)] [] m3 20 := by
    intro q
    have h8 := ifT q.symm h6
    refine GX_iconst hC (-1) dX9_field_20 rfl ?_
    exact GX_iretR hC hR dX9_field_21 (oi h8)
  have hc9 : false = c4 → GX Γ LAY 0 0 [some (.ref (gad Γ 0)), some (.int field1), some (.int what2)] [] m3 22 := by
    intro q
    have h10 := ifF q.symm h6
    refine GX_iload_n hC dX9_field_22 rfl ?_
    refine GX_if_ne_N hC 35 dX9_field_23 (by decide) (fun q => ?_) (fun q => ?_)
    · skip
      have h11 := ifP q h10
      refine GX_aload_n hC dX9_field_26 rfl ?_
      refine GX_getR hC fkX9_10 ol_0 rfl dX9_field_27 ?_
      refine GX_iload_n hC dX9_field_30 rfl ?_
      obtain ⟨r12, e13, h14⟩ := ob h11
      refine GX_callV_i (st := []) hC (C_Land_acresOf isLand_1 e13) okX2_acresOf lkX9_99 (olLand isLand_1) rfl rfl (Nat.le_of_ble_eq_true rfl) (Nat.le_of_ble_eq_true rfl) hk rfl (Nat.le_of_ble_eq_true rfl) dX9_field_31 ?_
      exact GX_iretR hC hR dX9_field_34 (oi h14)
    · skip
      have h15 := ifN q h10
      obtain ⟨x16, e17, h18⟩ := ob h15
      suffices hJ19 : GX Γ LAY 0 0 [some (.ref (gad Γ 0)), some (.int field1), some (.int what2)] [.int x16] m3 62 by
        refine GX_iload_n hC dX9_field_35 rfl ?_
        refine GX_iconst hC 1 dX9_field_36 rfl ?_
        refine GX_icmp_ne_N hC 54 dX9_field_37 (by decide) (fun q => ?_) (fun q => ?_)
        · skip
          have h20 := ifP q e17
          refine GX_aload_n hC dX9_field_40 rfl ?_
          refine GX_getR hC fkX9_10 ol_0 rfl dX9_field_41 ?_
          refine GX_iload_n hC dX9_field_44 rfl ?_
          obtain ⟨r21, e22, h23⟩ := ob h20
          refine GX_callV_i (st := []) hC (C_Land_ownerOf isLand_1 e22) okX2_ownerOf lkX9_103 (olLand isLand_1) rfl rfl (Nat.le_of_ble_eq_true rfl) (Nat.le_of_ble_eq_true rfl) hk rfl (Nat.le_of_ble_eq_true rfl) dX9_field_45 ?_
          obtain ⟨r24, e25, h26⟩ := ob h23
          refine GX_callS_i (st := []) hC (C_N_orNone e25) okX9_orNone lkX9_106 rfl (Nat.le_of_ble_eq_true rfl) (Nat.le_of_ble_eq_true rfl) hk rfl (Nat.le_of_ble_eq_true rfl) dX9_field_48 ?_
          refine GX_goto hC 62 dX9_field_51 (by decide) ?_
          exact GX_nm (oi h26) hJ19
        · skip
          have h27 := ifN q e17
          refine GX_aload_n hC dX9_field_54 rfl ?_
          refine GX_getR hC fkX9_10 ol_0 rfl dX9_field_55 ?_
          refine GX_iload_n hC dX9_field_58 rfl ?_
          obtain ⟨r28, e29, h30⟩ := ob h27
          refine GX_callV_i (st := []) hC (C_Land_barBits isLand_1 e29) okX2_barBits lkX9_109 (olLand isLand_1) rfl rfl (Nat.le_of_ble_eq_true rfl) (Nat.le_of_ble_eq_true rfl) hk rfl (Nat.le_of_ble_eq_true rfl) dX9_field_59 ?_
          exact GX_nm (oi h30) hJ19
      exact GX_iretR hC hR dX9_field_62 (oi h18)
  refine GX_aload_n hC dX9_field_0 rfl ?_
  refine GX_getR hC fkX9_10 ol_0 rfl dX9_field_1 ?_
  refine GX_iload_n hC dX9_field_4 rfl ?_
  obtain ⟨b31, e32, h33⟩ := ob e5
  refine GX_callV_i (st := []) hC (C_Land_isField isLand_1 e32) okX2_isField lkX9_95 (olLand isLand_1) rfl rfl (Nat.le_of_ble_eq_true rfl) (Nat.le_of_ble_eq_true rfl) hk rfl (Nat.le_of_ble_eq_true rfl) dX9_field_5 ?_
  refine GX_ifb_eq hC 20 dX9_field_8 (by decide) (fun q => ?_) (fun q => ?_)
  · skip
    have h34 := ifT q h33
    refine GX_iload_n hC dX9_field_11 rfl ?_
    refine GX_if_lt_P hC 20 dX9_field_12 (by decide) (fun q => ?_) (fun q => ?_)
    · skip
      have h35 := ifP q h34
      exact hc7 (oi h35)
    · skip
      have h36 := ifN q h34
      refine GX_iload_n hC dX9_field_15 rfl ?_
      refine GX_iconst hC 2 dX9_field_16 rfl ?_
      refine GX_icmp_le_N hC 22 dX9_field_17 (by decide) (fun q => ?_) (fun q => ?_)
      · skip
        exact hc7 (cdT q h36)
      · skip
        exact hc9 (cdF q h36)
  · skip
    have h37 := ifF q h33
    exact hc7 (oi h37)
set_option maxRecDepth 100000 in
set_option maxHeartbeats 4000000 in
theorem C_N_touch {l : Launch} {a1 : Int32} {b2 : Int32} {m3 : MI} {r0 : Int32}  (hf : N_touch a1 b2 m3 = some r0) : Cn l yX9_touch cX9_touch 3 (some .int) 2 LAY (fun ad => .ref (ad 0) :: [.int a1, .int b2]) m3 (fun _ => some (.int r0)) m3 := by
  refine Cn.of (fun ad => [some (.ref (ad 0)), some (.int a1), some (.int b2)]) (by decide +kernel) (fun _ => rfl) (fun _ => Nat.le_of_ble_eq_true rfl) (fun Γ hl hC hR hk => ?_)
  subst hl
  replace hC : CX Γ cX9_touch RX9 LAY 2 3 := hC
  dsimp only [N_touch] at hf
  obtain ⟨x4, e5, h6⟩ := ob hf
  suffices hJ7 : GX Γ LAY 0 0 [some (.ref (gad Γ 0)), some (.int a1), some (.int b2)] [.int x4] m3 25 by
    refine GX_aload_n hC dX9_touch_0 rfl ?_
    refine GX_getR hC fkX9_10 ol_0 rfl dX9_touch_1 ?_
    refine GX_iload_n hC dX9_touch_4 rfl ?_
    refine GX_iload_n hC dX9_touch_5 rfl ?_
    obtain ⟨b8, e9, h10⟩ := ob e5
    refine GX_callV_i (st := []) hC (C_Land_areTwo isLand_1 e9) okX2_areTwo lkX9_112 (olLand isLand_1) rfl rfl (Nat.le_of_ble_eq_true rfl) (Nat.le_of_ble_eq_true rfl) hk rfl (Nat.le_of_ble_eq_true rfl) dX9_touch_6 ?_
    refine GX_ifb_eq hC 24 dX9_touch_9 (by decide) (fun q => ?_) (fun q => ?_)
    · skip
      have h11 := ifT q h10
      refine GX_aload_n hC dX9_touch_12 rfl ?_
      refine GX_getR hC fkX9_10 ol_0 rfl dX9_touch_13 ?_
      refine GX_iload_n hC dX9_touch_16 rfl ?_
      refine GX_iload_n hC dX9_touch_17 rfl ?_
      obtain ⟨r12, e13, h14⟩ := ob h11
      refine GX_callV_i (st := []) hC (C_Land_touchOf isLand_1 e13) okX2_touchOf lkX9_116 (olLand isLand_1) rfl rfl (Nat.le_of_ble_eq_true rfl) (Nat.le_of_ble_eq_true rfl) hk rfl (Nat.le_of_ble_eq_true rfl) dX9_touch_18 ?_
      refine GX_goto hC 25 dX9_touch_21 (by decide) ?_
      exact GX_nm (oi h14) hJ7
    · skip
      have h15 := ifF q h10
      refine GX_iconst hC (-1) dX9_touch_24 rfl ?_
      exact GX_nm (oi h15) hJ7
  exact GX_iretR hC hR dX9_touch_25 (oi h6)
set_option maxRecDepth 100000 in
set_option maxHeartbeats 4000000 in
theorem C_N_person {l : Launch} {person1 : Int32} {what2 : Int32} {m3 : MI} {r0 : Int32}  (hf : N_person person1 what2 m3 = some r0) : Cn l yX9_person cX9_person 3 (some .int) 4 LAY (fun ad => .ref (ad 0) :: [.int person1, .int what2]) m3 (fun _ => some (.int r0)) m3 := by
  refine Cn.of (fun ad => [some (.ref (ad 0)), some (.int person1), some (.int what2)]) (by decide +kernel) (fun _ => rfl) (fun _ => Nat.le_of_ble_eq_true rfl) (fun Γ hl hC hR hk => ?_)
  subst hl
  replace hC : CX Γ cX9_person RX9 LAY 4 3 := hC
  dsimp only [N_person] at hf
  refine GX_aload_n hC dX9_person_0 rfl ?_
  refine GX_getR hC fkX9_10 ol_0 rfl dX9_person_1 ?_
  refine GX_iload_n hC dX9_person_4 rfl ?_
  obtain ⟨b4, e5, h6⟩ := ob hf
  refine GX_callV_i (st := []) hC (C_Land_isPerson isLand_1 e5) okX2_isPerson lkX9_120 (olLand isLand_1) rfl rfl (Nat.le_of_ble_eq_true rfl) (Nat.le_of_ble_eq_true rfl) hk rfl (Nat.le_of_ble_eq_true rfl) dX9_person_5 ?_
  refine GX_ifb_ne hC 13 dX9_person_8 (by decide) (fun q => ?_) (fun q => ?_)
  · skip
    have h7 := ifT q h6
    refine GX_iload_n hC dX9_person_13 rfl ?_
    by_cases q0 : what2 = 0
    · skip
      have h8 := ifP q0 h7
      refine GX_tableIn hC 0 44 dX9_person_14 q0 (by decide) (by decide) rfl (by decide) ?_
      refine GX_aload_n hC dX9_person_44 rfl ?_
      refine GX_getR hC fkX9_10 ol_0 rfl dX9_person_45 ?_
      refine GX_iload_n hC dX9_person_48 rfl ?_
      obtain ⟨r9, e10, h11⟩ := ob h8
      refine GX_callV_i (st := []) hC (C_Land_coinsOf isLand_1 e10) okX2_coinsOf lkX9_123 (olLand isLand_1) rfl rfl (Nat.le_of_ble_eq_true rfl) (Nat.le_of_ble_eq_true rfl) hk rfl (Nat.le_of_ble_eq_true rfl) dX9_person_49 ?_
      exact GX_iretR hC hR dX9_person_52 (oi h11)
    · skip
      have h12 := ifN q0 h7
      by_cases q1 : what2 = 1
      · skip
        have h13 := ifP q1 h12
        refine GX_tableIn hC 1 53 dX9_person_14 q1 (by decide) (by decide) rfl (by decide) ?_
        refine GX_aload_n hC dX9_person_53 rfl ?_
        refine GX_getR hC fkX9_10 ol_0 rfl dX9_person_54 ?_
        refine GX_iload_n hC dX9_person_57 rfl ?_
        obtain ⟨r14, e15, h16⟩ := ob h13
        refine GX_callV_i (st := []) hC (C_Land_kinOf isLand_1 e15) okX2_kinOf lkX9_126 (olLand isLand_1) rfl rfl (Nat.le_of_ble_eq_true rfl) (Nat.le_of_ble_eq_true rfl) hk rfl (Nat.le_of_ble_eq_true rfl) dX9_person_58 ?_
        obtain ⟨r17, e18, h19⟩ := ob h16
        refine GX_callS_i (st := []) hC (C_N_orNone e18) okX9_orNone lkX9_106 rfl (Nat.le_of_ble_eq_true rfl) (Nat.le_of_ble_eq_true rfl) hk rfl (Nat.le_of_ble_eq_true rfl) dX9_person_61 ?_
        exact GX_iretR hC hR dX9_person_64 (oi h19)
      · skip
        have h20 := ifN q1 h12
        by_cases q2 : what2 = 2
        · skip
          have h21 := ifP q2 h20
          refine GX_tableIn hC 2 65 dX9_person_14 q2 (by decide) (by decide) rfl (by decide) ?_
          refine GX_aload_n hC dX9_person_65 rfl ?_
          refine GX_getR hC fkX9_10 ol_0 rfl dX9_person_66 ?_
          refine GX_iload_n hC dX9_person_69 rfl ?_
          obtain ⟨r22, e23, h24⟩ := ob h21
          refine GX_callV_i (st := []) hC (C_Land_fieldBits isLand_1 e23) okX2_fieldBits lkX9_129 (olLand isLand_1) rfl rfl (Nat.le_of_ble_eq_true rfl) (Nat.le_of_ble_eq_true rfl) hk rfl (Nat.le_of_ble_eq_true rfl) dX9_person_70 ?_
          exact GX_iretR hC hR dX9_person_73 (oi h24)
        · skip
          have h25 := ifN q2 h20
          by_cases q3 : what2 = 3
          · skip
            have h26 := ifP q3 h25
            refine GX_tableIn hC 3 74 dX9_person_14 q3 (by decide) (by decide) rfl (by decide) ?_
            refine GX_aload_n hC dX9_person_74 rfl ?_
            refine GX_getR hC fkX9_10 ol_0 rfl dX9_person_75 ?_
            refine GX_iload_n hC dX9_person_78 rfl ?_
            obtain ⟨r27, e28, h29⟩ := ob h26
            refine GX_callV_i (st := []) hC (C_Land_worthOwned isLand_1 e28) okX2_worthOwned lkX9_132 (olLand isLand_1) rfl rfl (Nat.le_of_ble_eq_true rfl) (Nat.le_of_ble_eq_true rfl) hk rfl (Nat.le_of_ble_eq_true rfl) dX9_person_79 ?_
            exact GX_iretR hC hR dX9_person_82 (oi h29)
          · skip
            have h30 := ifN q3 h25
            refine GX_tableOut hC 83 dX9_person_14 (by have n0 := sw_ne q0 (z := 0) rfl; have n1 := sw_ne q1 (z := 1) rfl; have n2 := sw_ne q2 (z := 2) rfl; have n3 := sw_ne q3 (z := 3) rfl; omega) (by decide) ?_
            refine GX_iconst hC (-1) dX9_person_83 rfl ?_
            exact GX_iretR hC hR dX9_person_84 (oi h30)
  · skip
    have h31 := ifF q h6
    refine GX_iconst hC (-1) dX9_person_11 rfl ?_
    exact GX_iretR hC hR dX9_person_12 (oi h31)
set_option maxRecDepth 100000 in
set_option maxHeartbeats 4000000 in
theorem C_N_worth {l : Launch} {person1 : Int32} {field2 : Int32} {m3 : MI} {r0 : Int32}  (hf : N_worth person1 field2 m3 = some r0) : Cn l yX9_worth cX9_worth 3 (some .int) 2 LAY (fun ad => .ref (ad 0) :: [.int person1, .int field2]) m3 (fun _ => some (.int r0)) m3 := by
  refine Cn.of (fun ad => [some (.ref (ad 0)), some (.int person1), some (.int field2)]) (by decide +kernel) (fun _ => rfl) (fun _ => Nat.le_of_ble_eq_true rfl) (fun Γ hl hC hR hk => ?_)
  subst hl
  replace hC : CX Γ cX9_worth RX9 LAY 2 3 := hC
  dsimp only [N_worth] at hf
  obtain ⟨c4, e5, h6⟩ := ob hf
  have hc7 : true = c4 → GX Γ LAY 0 0 [some (.ref (gad Γ 0)), some (.int person1), some (.int field2)] [] m3 22 := by
    intro q
    have h8 := ifT q.symm h6
    refine GX_iconst hC (-1) dX9_worth_22 rfl ?_
    exact GX_iretR hC hR dX9_worth_23 (oi h8)
  have hc9 : false = c4 → GX Γ LAY 0 0 [some (.ref (gad Γ 0)), some (.int person1), some (.int field2)] [] m3 24 := by
    intro q
    have h10 := ifF q.symm h6
    refine GX_aload_n hC dX9_worth_24 rfl ?_
    refine GX_getR hC fkX9_10 ol_0 rfl dX9_worth_25 ?_
    refine GX_iload_n hC dX9_worth_28 rfl ?_
    refine GX_iload_n hC dX9_worth_29 rfl ?_
    obtain ⟨r11, e12, h13⟩ := ob h10
    refine GX_callV_i (st := []) hC (C_Land_worthTo isLand_1 e12) okX2_worthTo lkX9_135 (olLand isLand_1) rfl rfl (Nat.le_of_ble_eq_true rfl) (Nat.le_of_ble_eq_true rfl) hk rfl (Nat.le_of_ble_eq_true rfl) dX9_worth_30 ?_
    exact GX_iretR hC hR dX9_worth_33 (oi h13)
  refine GX_aload_n hC dX9_worth_0 rfl ?_
  refine GX_getR hC fkX9_10 ol_0 rfl dX9_worth_1 ?_
  refine GX_iload_n hC dX9_worth_4 rfl ?_
  obtain ⟨b14, e15, h16⟩ := ob e5
  refine GX_callV_i (st := []) hC (C_Land_isPerson isLand_1 e15) okX2_isPerson lkX9_120 (olLand isLand_1) rfl rfl (Nat.le_of_ble_eq_true rfl) (Nat.le_of_ble_eq_true rfl) hk rfl (Nat.le_of_ble_eq_true rfl) dX9_worth_5 ?_
  refine GX_ifb_eq hC 22 dX9_worth_8 (by decide) (fun q => ?_) (fun q => ?_)
  · skip
    have h17 := ifT q h16
    refine GX_aload_n hC dX9_worth_11 rfl ?_
    refine GX_getR hC fkX9_10 ol_0 rfl dX9_worth_12 ?_
    refine GX_iload_n hC dX9_worth_15 rfl ?_
    obtain ⟨b18, e19, h20⟩ := ob h17
    refine GX_callV_i (st := []) hC (C_Land_isField isLand_1 e19) okX2_isField lkX9_95 (olLand isLand_1) rfl rfl (Nat.le_of_ble_eq_true rfl) (Nat.le_of_ble_eq_true rfl) hk rfl (Nat.le_of_ble_eq_true rfl) dX9_worth_16 ?_
    refine GX_ifb_ne hC 24 dX9_worth_19 (by decide) (fun q => ?_) (fun q => ?_)
    · skip
      exact hc9 (cbnT q h20)
    · skip
      exact hc7 (cbnF q h20)
  · skip
    have h21 := ifF q h16
    exact hc7 (oi h21)
set_option maxRecDepth 100000 in
set_option maxHeartbeats 4000000 in
theorem C_N_law {l : Launch} {what1 : Int32} {x2 : Int32} {m3 : MI} {r0 : Int32} {mr : MI}  (hf : N_law what1 x2 m3 = some (r0, mr)) : Cn l yX9_law cX9_law 4 (some .int) 1 LAY (fun ad => .ref (ad 0) :: [.int what1, .int x2]) m3 (fun _ => some (.int r0)) mr := by
  refine Cn.of (fun ad => [some (.ref (ad 0)), some (.int what1), some (.int x2), none]) (by decide +kernel) (fun _ => rfl) (fun _ => Nat.le_of_ble_eq_true rfl) (fun Γ hl hC hR hk => ?_)
  subst hl
  replace hC : CX Γ cX9_law RX9 LAY 1 4 := hC
  dsimp only [N_law] at hf
  obtain ⟨c4, e5, h6⟩ := ob hf
  have hc7 : true = c4 → GX Γ LAY 0 0 [some (.ref (gad Γ 0)), some (.int what1), some (.int x2), none] [] m3 18 := by
    intro q
    have h8 := ifT q.symm h6
    refine GX_iconst hC (-1) dX9_law_18 rfl ?_
    exact GX_iretW hC hR dX9_law_19 (oi h8)
  have hc9 : false = c4 → GX Γ LAY 0 0 [some (.ref (gad Γ 0)), some (.int what1), some (.int x2), none] [] m3 20 := by
    intro q
    have h10 := ifF q.symm h6
    obtain ⟨b11, e12, h13⟩ := ob h10
    suffices hJ14 : GX Γ LAY 0 0 [some (.ref (gad Γ 0)), some (.int what1), some (.int x2), none] [.int (bI b11)] m3 41 by
      refine GX_iload_n hC dX9_law_20 rfl ?_
      refine GX_if_ne_N hC 34 dX9_law_21 (by decide) (fun q => ?_) (fun q => ?_)
      · skip
        have h15 := ifP q e12
        refine GX_aload_n hC dX9_law_24 rfl ?_
        refine GX_getR hC fkX9_10 ol_0 rfl dX9_law_25 ?_
        obtain ⟨b16, e17, h18⟩ := ob h15
        refine GX_ldZ hC e17 fkX9_138 (olLand isLand_1) rfl dX9_law_28 ?_
        refine GX_goto hC 41 dX9_law_31 (by decide) ?_
        exact GX_nmb (oi h18) hJ14
      · skip
        have h19 := ifN q e12
        refine GX_aload_n hC dX9_law_34 rfl ?_
        refine GX_getR hC fkX9_10 ol_0 rfl dX9_law_35 ?_
        obtain ⟨b20, e21, h22⟩ := ob h19
        refine GX_ldZ hC e21 fkX9_141 (olLand isLand_1) rfl dX9_law_38 ?_
        exact GX_nmb (oi h22) hJ14
    refine GX_istore_n hC [some (.ref (gad Γ 0)), some (.int what1), some (.int x2), some (.int (bI b11))] dX9_law_41 (by decide) rfl rfl ?_
    refine GX_aload_n hC dX9_law_42 rfl ?_
    refine GX_getR hC fkX9_10 ol_0 rfl dX9_law_43 ?_
    refine GX_iload_n hC dX9_law_46 rfl ?_
    obtain ⟨c23, e24, h25⟩ := ob h13
    suffices hJ26 : GX Γ LAY 0 0 [some (.ref (gad Γ 0)), some (.int what1), some (.int x2), some (.int (bI b11))] [.int (bI c23), .int what1, .ref (gad Γ 1)] m3 57 by
      have hc27 : true = c23 → GX Γ LAY 0 0 [some (.ref (gad Γ 0)), some (.int what1), some (.int x2), some (.int (bI b11))] [.int what1, .ref (gad Γ 1)] m3 52 := by
        intro q
        subst q
        refine GX_iconst hC (bI true) dX9_law_52 rfl ?_
        refine GX_goto hC 57 dX9_law_53 (by decide) ?_
        exact hJ26
      have hc28 : false = c23 → GX Γ LAY 0 0 [some (.ref (gad Γ 0)), some (.int what1), some (.int x2), some (.int (bI b11))] [.int what1, .ref (gad Γ 1)] m3 56 := by
        intro q
        subst q
        refine GX_iconst hC (bI false) dX9_law_56 rfl ?_
        exact hJ26
      refine GX_iload_n hC dX9_law_47 rfl ?_
      refine GX_iconst hC 1 dX9_law_48 rfl ?_
      refine GX_icmp_ne_N hC 56 dX9_law_49 (by decide) (fun q => ?_) (fun q => ?_)
      · skip
        exact hc27 (cdT q e24)
      · skip
        exact hc28 (cdF q e24)
    obtain ⟨m29, e30, h31⟩ := ob h25
    refine GX_callV_v (st := []) hC (C_Land_setLaw isLand_1 e30) okX2_setLaw lkX9_144 (olLand isLand_1) rfl rfl (Nat.le_of_ble_eq_true rfl) (Nat.le_of_ble_eq_true rfl) hk rfl (Nat.le_of_ble_eq_true rfl) dX9_law_57 ?_
    obtain ⟨x32, e33, h34⟩ := ob h31
    suffices hJ35 : GX Γ LAY 0 0 [some (.ref (gad Γ 0)), some (.int what1), some (.int x2), some (.int (bI b11))] [.int x32] m29 69 by
      refine GX_iload_n hC dX9_law_60 rfl ?_
      refine GX_ifb_eq hC 68 dX9_law_61 (by decide) (fun q => ?_) (fun q => ?_)
      · skip
        have h36 := ifT q e33
        refine GX_iconst hC 1 dX9_law_64 rfl ?_
        refine GX_goto hC 69 dX9_law_65 (by decide) ?_
        exact GX_nm (oi h36) hJ35
      · skip
        have h37 := ifF q e33
        refine GX_iconst hC 0 dX9_law_68 rfl ?_
        exact GX_nm (oi h37) hJ35
    exact GX_iretW hC hR dX9_law_69 (oi h34)
  refine GX_iload_n hC dX9_law_0 rfl ?_
  refine GX_if_lt_P hC 18 dX9_law_1 (by decide) (fun q => ?_) (fun q => ?_)
  · skip
    have h38 := ifP q e5
    exact hc7 (oi h38)
  · skip
    have h39 := ifN q e5
    refine GX_iload_n hC dX9_law_4 rfl ?_
    refine GX_iconst hC 1 dX9_law_5 rfl ?_
    refine GX_icmp_gt_P hC 18 dX9_law_6 (by decide) (fun q => ?_) (fun q => ?_)
    · skip
      have h40 := ifP q h39
      exact hc7 (oi h40)
    · skip
      have h41 := ifN q h39
      refine GX_iload_n hC dX9_law_9 rfl ?_
      refine GX_if_lt_P hC 18 dX9_law_10 (by decide) (fun q => ?_) (fun q => ?_)
      · skip
        have h42 := ifP q h41
        exact hc7 (oi h42)
      · skip
        have h43 := ifN q h41
        refine GX_iload_n hC dX9_law_13 rfl ?_
        refine GX_iconst hC 1 dX9_law_14 rfl ?_
        refine GX_icmp_le_N hC 20 dX9_law_15 (by decide) (fun q => ?_) (fun q => ?_)
        · skip
          exact hc7 (cdT q h43)
        · skip
          exact hc9 (cdF q h43)
set_option maxRecDepth 100000 in
set_option maxHeartbeats 4000000 in
theorem C_N_owns {l : Launch} {person1 : Int32} {field2 : Int32} {m3 : MI} {r0 : Int32} {mr : MI}  (hf : N_owns person1 field2 m3 = some (r0, mr)) : Cn l yX9_owns cX9_owns 4 (some .int) 3 LAY (fun ad => .ref (ad 0) :: [.int person1, .int field2]) m3 (fun _ => some (.int r0)) mr := by
  refine Cn.of (fun ad => [some (.ref (ad 0)), some (.int person1), some (.int field2), none]) (by decide +kernel) (fun _ => rfl) (fun _ => Nat.le_of_ble_eq_true rfl) (fun Γ hl hC hR hk => ?_)
  subst hl
  replace hC : CX Γ cX9_owns RX9 LAY 3 4 := hC
  dsimp only [N_owns] at hf
  obtain ⟨c4, e5, h6⟩ := ob hf
  have hc7 : true = c4 → GX Γ LAY 0 0 [some (.ref (gad Γ 0)), some (.int person1), some (.int field2), none] [] m3 22 := by
    intro q
    have h8 := ifT q.symm h6
    refine GX_iconst hC (-1) dX9_owns_22 rfl ?_
    exact GX_iretW hC hR dX9_owns_23 (oi h8)
  have hc9 : false = c4 → GX Γ LAY 0 0 [some (.ref (gad Γ 0)), some (.int person1), some (.int field2), none] [] m3 24 := by
    intro q
    have h10 := ifF q.symm h6
    refine GX_aload_n hC dX9_owns_24 rfl ?_
    refine GX_getR hC fkX9_10 ol_0 rfl dX9_owns_25 ?_
    refine GX_iload_n hC dX9_owns_28 rfl ?_
    obtain ⟨r11, e12, h13⟩ := ob h10
    refine GX_callV_i (st := []) hC (C_Land_ownerOf isLand_1 e12) okX2_ownerOf lkX9_103 (olLand isLand_1) rfl rfl (Nat.le_of_ble_eq_true rfl) (Nat.le_of_ble_eq_true rfl) hk rfl (Nat.le_of_ble_eq_true rfl) dX9_owns_29 ?_
    refine GX_istore_n hC [some (.ref (gad Γ 0)), some (.int person1), some (.int field2), some (.int r11)] dX9_owns_32 (by decide) rfl rfl ?_
    refine GX_aload_n hC dX9_owns_33 rfl ?_
    refine GX_getR hC fkX9_10 ol_0 rfl dX9_owns_34 ?_
    refine GX_iload_n hC dX9_owns_37 rfl ?_
    refine GX_iload_n hC dX9_owns_38 rfl ?_
    obtain ⟨⟨b14, m15⟩, e16, h17⟩ := ob h13
    refine GX_callV_i (st := []) hC (C_Land_give isLand_1 e16) okX2_give lkX9_151 (olLand isLand_1) rfl rfl (Nat.le_of_ble_eq_true rfl) (Nat.le_of_ble_eq_true rfl) hk rfl (Nat.le_of_ble_eq_true rfl) dX9_owns_39 ?_
    refine GX_pop hC dX9_owns_42 rfl ?_
    refine GX_iload_n hC dX9_owns_43 rfl ?_
    exact GX_iretW hC hR dX9_owns_44 (oi h17)
  refine GX_aload_n hC dX9_owns_0 rfl ?_
  refine GX_getR hC fkX9_10 ol_0 rfl dX9_owns_1 ?_
  refine GX_iload_n hC dX9_owns_4 rfl ?_
  obtain ⟨b18, e19, h20⟩ := ob e5
  refine GX_callV_i (st := []) hC (C_Land_isOwner isLand_1 e19) okX2_isOwner lkX9_148 (olLand isLand_1) rfl rfl (Nat.le_of_ble_eq_true rfl) (Nat.le_of_ble_eq_true rfl) hk rfl (Nat.le_of_ble_eq_true rfl) dX9_owns_5 ?_
  refine GX_ifb_eq hC 22 dX9_owns_8 (by decide) (fun q => ?_) (fun q => ?_)
  · skip
    have h21 := ifT q h20
    refine GX_aload_n hC dX9_owns_11 rfl ?_
    refine GX_getR hC fkX9_10 ol_0 rfl dX9_owns_12 ?_
    refine GX_iload_n hC dX9_owns_15 rfl ?_
    obtain ⟨b22, e23, h24⟩ := ob h21
    refine GX_callV_i (st := []) hC (C_Land_isField isLand_1 e23) okX2_isField lkX9_95 (olLand isLand_1) rfl rfl (Nat.le_of_ble_eq_true rfl) (Nat.le_of_ble_eq_true rfl) hk rfl (Nat.le_of_ble_eq_true rfl) dX9_owns_16 ?_
    refine GX_ifb_ne hC 24 dX9_owns_19 (by decide) (fun q => ?_) (fun q => ?_)
    · skip
      exact hc9 (cbnT q h24)
    · skip
      exact hc7 (cbnF q h24)
  · skip
    have h25 := ifF q h20
    exact hc7 (oi h25)
set_option maxRecDepth 100000 in
set_option maxHeartbeats 4000000 in
theorem C_N_lawful {l : Launch} {m1 : MI} {r0 : Int32}  (hf : N_lawful m1 = some r0) : Cn l yX9_lawful cX9_lawful 1 (some .int) 4 LAY (fun ad => .ref (ad 0) :: []) m1 (fun _ => some (.int r0)) m1 := by
  refine Cn.of (fun ad => [some (.ref (ad 0))]) (by decide +kernel) (fun _ => rfl) (fun _ => Nat.le_of_ble_eq_true rfl) (fun Γ hl hC hR hk => ?_)
  subst hl
  replace hC : CX Γ cX9_lawful RX9 LAY 4 1 := hC
  dsimp only [N_lawful] at hf
  obtain ⟨x2, e3, h4⟩ := ob hf
  suffices hJ5 : GX Γ LAY 0 0 [some (.ref (gad Γ 0))] [.int x2] m1 15 by
    refine GX_aload_n hC dX9_lawful_0 rfl ?_
    refine GX_getR hC fkX9_10 ol_0 rfl dX9_lawful_1 ?_
    obtain ⟨b6, e7, h8⟩ := ob e3
    refine GX_callV_i (st := []) hC (C_Land_isLawful isLand_1 e7) okX2_isLawful lkX9_154 (olLand isLand_1) rfl rfl (Nat.le_of_ble_eq_true rfl) (Nat.le_of_ble_eq_true rfl) hk rfl (Nat.le_of_ble_eq_true rfl) dX9_lawful_4 ?_
    refine GX_ifb_eq hC 14 dX9_lawful_7 (by decide) (fun q => ?_) (fun q => ?_)
    · skip
      have h9 := ifT q h8
      refine GX_iconst hC 1 dX9_lawful_10 rfl ?_
      refine GX_goto hC 15 dX9_lawful_11 (by decide) ?_
      exact GX_nm (oi h9) hJ5
    · skip
      have h10 := ifF q h8
      refine GX_iconst hC 0 dX9_lawful_14 rfl ?_
      exact GX_nm (oi h10) hJ5
  exact GX_iretR hC hR dX9_lawful_15 (oi h4)
set_option maxRecDepth 100000 in
set_option maxHeartbeats 4000000 in
theorem C_N_firstUnlawful {l : Launch} {m1 : MI} {r0 : Int32}  (hf : N_firstUnlawful m1 = some r0) : Cn l yX9_firstUnlawful cX9_firstUnlawful 1 (some .int) 3 LAY (fun ad => .ref (ad 0) :: []) m1 (fun _ => some (.int r0)) m1 := by
  refine Cn.of (fun ad => [some (.ref (ad 0))]) (by decide +kernel) (fun _ => rfl) (fun _ => Nat.le_of_ble_eq_true rfl) (fun Γ hl hC hR hk => ?_)
  subst hl
  replace hC : CX Γ cX9_firstUnlawful RX9 LAY 3 1 := hC
  dsimp only [N_firstUnlawful] at hf
  refine GX_aload_n hC dX9_firstUnlawful_0 rfl ?_
  refine GX_getR hC fkX9_10 ol_0 rfl dX9_firstUnlawful_1 ?_
  refine GX_iconst hC 0 dX9_firstUnlawful_4 rfl ?_
  obtain ⟨r2, e3, h4⟩ := ob hf
  refine GX_callV_i (st := []) hC (C_Land_firstOffence isLand_1 e3) okX2_firstOffence lkX9_158 (olLand isLand_1) rfl rfl (Nat.le_of_ble_eq_true rfl) (Nat.le_of_ble_eq_true rfl) hk rfl (Nat.le_of_ble_eq_true rfl) dX9_firstUnlawful_5 ?_
  exact GX_iretR hC hR dX9_firstUnlawful_8 (oi h4)
set_option maxRecDepth 100000 in
set_option maxHeartbeats 4000000 in
theorem C_N_isWanted {l : Launch} {move1 : Nat} {m2 : MI} {r0 : Bool} {mr : MI} (hp_move1 : isMove move1) (hf : N_isWanted move1 m2 = some (r0, mr)) : Cn l yX9_isWanted cX9_isWanted 3 (some .boolean) 5 LAY (fun ad => .ref (ad 0) :: [.ref (ad move1)]) m2 (fun _ => some (.int (bI r0))) mr := by
  refine Cn.of (fun ad => [some (.ref (ad 0)), some (.ref (ad move1)), none]) (by decide +kernel) (fun _ => rfl) (fun _ => Nat.le_of_ble_eq_true rfl) (fun Γ hl hC hR hk => ?_)
  subst hl
  replace hC : CX Γ cX9_isWanted RX9 LAY 5 3 := hC
  dsimp only [N_isWanted] at hf
  refine GX_aload_n hC dX9_isWanted_0 rfl ?_
  refine GX_aload_n hC dX9_isWanted_1 rfl ?_
  refine GX_getR hC fkX9_10 ol_0 rfl dX9_isWanted_2 ?_
  obtain ⟨b3, e4, h5⟩ := ob hf
  refine GX_callV_i (st := []) hC (C_Move_isAsTold hp_move1 isLand_1 e4) okX4_isAsTold lkX9_331 (olMove hp_move1) rfl rfl (Nat.le_of_ble_eq_true rfl) (Nat.le_of_ble_eq_true rfl) hk rfl (Nat.le_of_ble_eq_true rfl) dX9_isWanted_5 ?_
  refine GX_ifb_ne hC 13 dX9_isWanted_8 (by decide) (fun q => ?_) (fun q => ?_)
  · skip
    have h6 := ifT q h5
    obtain ⟨c7, e8, h9⟩ := ob h6
    have hc10 : true = c7 → GX Γ LAY 0 0 [some (.ref (gad Γ 0)), some (.ref (gad Γ move1)), none] [] m2 31 := by
      intro q
      have h11 := ifT q.symm h9
      refine GX_iconst hC (bI true) dX9_isWanted_31 rfl ?_
      exact GX_zretW hC true hR dX9_isWanted_32 (oi h11)
    have hc12 : false = c7 → GX Γ LAY 0 0 [some (.ref (gad Γ 0)), some (.ref (gad Γ move1)), none] [] m2 33 := by
      intro q
      have h13 := ifF q.symm h9
      refine GX_aload_n hC dX9_isWanted_33 rfl ?_
      refine GX_getR hC fkX9_16 ol_0 rfl dX9_isWanted_34 ?_
      refine GX_aload_n hC dX9_isWanted_37 rfl ?_
      refine GX_getR hC fkX9_10 ol_0 rfl dX9_isWanted_38 ?_
      obtain ⟨m14, e15, h16⟩ := ob h13
      refine GX_callV_v (st := []) hC (C_Land_copyFrom isLand_8 isLand_1 e15) okX2_copyFrom lkX9_87 (olLand isLand_8) rfl rfl (Nat.le_of_ble_eq_true rfl) (Nat.le_of_ble_eq_true rfl) hk rfl (Nat.le_of_ble_eq_true rfl) dX9_isWanted_41 ?_
      refine GX_aload_n hC dX9_isWanted_44 rfl ?_
      refine GX_aload_n hC dX9_isWanted_45 rfl ?_
      refine GX_getR hC fkX9_16 ol_0 rfl dX9_isWanted_46 ?_
      obtain ⟨m17, e18, h19⟩ := ob h16
      refine GX_callV_v (st := []) hC (C_Move_doOn hp_move1 isLand_8 e18) okX4_doOn lkX9_334 (olMove hp_move1) rfl rfl (Nat.le_of_ble_eq_true rfl) (Nat.le_of_ble_eq_true rfl) hk rfl (Nat.le_of_ble_eq_true rfl) dX9_isWanted_49 ?_
      refine GX_iconst hC 0 dX9_isWanted_52 rfl ?_
      refine GX_istore_n hC [some (.ref (gad Γ 0)), some (.ref (gad Γ move1)), some (.int 0)] dX9_isWanted_53 (by decide) rfl rfl ?_
      obtain ⟨o20, e21, h22⟩ := ob h19
      have hR23 : ∀ res : Bool × MI, Sum.inr res = o20 → res = (r0, mr) := by
        intro res q
        subst q
        have h22 := seR h22
        exact (oi h22)
      suffices hJ23 : Sum.inl () = o20 → GX Γ LAY 0 0 [some (.ref (gad Γ 0)), some (.ref (gad Γ move1)), none] [] m17 92 by
        refine lp_walk (P := fun s => GX Γ LAY 0 0 [some (.ref (gad Γ 0)), some (.ref (gad Γ move1)), some (.int s)] [] m17 54) (fun p24 x hx23 hI23 hO23 => ?_) _ _ e21
        show GX Γ LAY 0 0 [some (.ref (gad Γ 0)), some (.ref (gad Γ move1)), some (.int p24)] [] m17 54
        dsimp only [N_isWanted_s1] at hx23
        refine GX_iload_n hC dX9_isWanted_54 rfl ?_
        refine GX_aload_n hC dX9_isWanted_55 rfl ?_
        refine GX_getR hC fkX9_10 ol_0 rfl dX9_isWanted_56 ?_
        refine GX_getI hC fkX9_228 (olLand isLand_1) rfl dX9_isWanted_59 ?_
        refine GX_icmp_ge_N hC 92 dX9_isWanted_62 (by decide) (fun q => ?_) (fun q => ?_)
        · skip
          have h25 := ifP q hx23
          refine GX_aload_n hC dX9_isWanted_65 rfl ?_
          refine GX_getR hC fkX9_16 ol_0 rfl dX9_isWanted_66 ?_
          refine GX_iload_n hC dX9_isWanted_69 rfl ?_
          obtain ⟨r26, e27, h28⟩ := ob h25
          refine GX_callV_i (st := []) hC (C_Land_worthOwned isLand_8 e27) okX2_worthOwned lkX9_132 (olLand isLand_8) rfl rfl (Nat.le_of_ble_eq_true rfl) (Nat.le_of_ble_eq_true rfl) hk rfl (Nat.le_of_ble_eq_true rfl) dX9_isWanted_70 ?_
          refine GX_aload_n hC dX9_isWanted_73 rfl ?_
          refine GX_getR hC fkX9_10 ol_0 rfl dX9_isWanted_74 ?_
          refine GX_iload_n hC dX9_isWanted_77 rfl ?_
          obtain ⟨r29, e30, h31⟩ := ob h28
          refine GX_callV_i (st := [.int r26]) hC (C_Land_worthOwned isLand_1 e30) okX2_worthOwned lkX9_132 (olLand isLand_1) rfl rfl (Nat.le_of_ble_eq_true rfl) (Nat.le_of_ble_eq_true rfl) hk rfl (Nat.le_of_ble_eq_true rfl) dX9_isWanted_78 ?_
          refine GX_icmp_ge_N hC 86 dX9_isWanted_81 (by decide) (fun q => ?_) (fun q => ?_)
          · skip
            have h32 := ifP q h31
            refine GX_iconst hC (bI false) dX9_isWanted_84 rfl ?_
            exact GX_zretW hC false hR dX9_isWanted_85 (hR23 _ (hO23 _ (oi h32).symm))
          · skip
            have h33 := ifN q h31
            obtain ⟨i34, e35, h36⟩ := ob h33
            refine GX_iinc hC i34 [some (.ref (gad Γ 0)), some (.ref (gad Γ move1)), some (.int i34)] dX9_isWanted_86 rfl (oi e35) (by decide) rfl rfl ?_
            refine GX_goto hC 54 dX9_isWanted_89 (by decide) ?_
            exact hI23 _ (oi h36).symm
        · skip
          have h37 := ifN q hx23
          exact GX.le (hJ23 (hO23 _ (oi h37).symm)) ⟨rfl, ⟨rfl, trivial⟩⟩
      intro q38
      subst q38
      have h22 := seL h22
      refine GX_iconst hC (bI true) dX9_isWanted_92 rfl ?_
      exact GX_zretW hC true hR dX9_isWanted_93 (oi h22)
    refine GX_aload_n hC dX9_isWanted_13 rfl ?_
    refine GX_getI hC fkX9_340 (olMove hp_move1) rfl dX9_isWanted_14 ?_
    refine GX_bipush hC 6 dX9_isWanted_17 rfl ?_
    refine GX_icmp_eq_P hC 31 dX9_isWanted_19 (by decide) (fun q => ?_) (fun q => ?_)
    · skip
      have h40 := ifP q e8
      exact hc10 (oi h40)
    · skip
      have h41 := ifN q e8
      refine GX_aload_n hC dX9_isWanted_22 rfl ?_
      refine GX_getI hC fkX9_340 (olMove hp_move1) rfl dX9_isWanted_23 ?_
      refine GX_bipush hC 7 dX9_isWanted_26 rfl ?_
      refine GX_icmp_ne_N hC 33 dX9_isWanted_28 (by decide) (fun q => ?_) (fun q => ?_)
      · skip
        exact hc10 (cdT q h41)
      · skip
        exact hc12 (cdF q h41)
  · skip
    have h42 := ifF q h5
    refine GX_iconst hC (bI false) dX9_isWanted_11 rfl ?_
    exact GX_zretW hC false hR dX9_isWanted_12 (oi h42)
set_option maxRecDepth 100000 in
set_option maxHeartbeats 4000000 in
theorem C_N_mayBeDone {l : Launch} {move1 : Nat} {m2 : MI} {r0 : Bool} {mr : MI} (hp_move1 : isMove move1) (hf : N_mayBeDone move1 m2 = some (r0, mr)) : Cn l yX9_mayBeDone cX9_mayBeDone 2 (some .boolean) 5 LAY (fun ad => .ref (ad 0) :: [.ref (ad move1)]) m2 (fun _ => some (.int (bI r0))) mr := by
  refine Cn.of (fun ad => [some (.ref (ad 0)), some (.ref (ad move1))]) (by decide +kernel) (fun _ => rfl) (fun _ => Nat.le_of_ble_eq_true rfl) (fun Γ hl hC hR hk => ?_)
  subst hl
  replace hC : CX Γ cX9_mayBeDone RX9 LAY 5 2 := hC
  dsimp only [N_mayBeDone] at hf
  refine GX_aload_n hC dX9_mayBeDone_0 rfl ?_
  refine GX_getR hC fkX9_16 ol_0 rfl dX9_mayBeDone_1 ?_
  refine GX_aload_n hC dX9_mayBeDone_4 rfl ?_
  refine GX_getR hC fkX9_10 ol_0 rfl dX9_mayBeDone_5 ?_
  obtain ⟨m3, e4, h5⟩ := ob hf
  refine GX_callV_v (st := []) hC (C_Land_copyFrom isLand_8 isLand_1 e4) okX2_copyFrom lkX9_87 (olLand isLand_8) rfl rfl (Nat.le_of_ble_eq_true rfl) (Nat.le_of_ble_eq_true rfl) hk rfl (Nat.le_of_ble_eq_true rfl) dX9_mayBeDone_8 ?_
  refine GX_aload_n hC dX9_mayBeDone_11 rfl ?_
  refine GX_aload_n hC dX9_mayBeDone_12 rfl ?_
  refine GX_getR hC fkX9_16 ol_0 rfl dX9_mayBeDone_13 ?_
  obtain ⟨b6, e7, h8⟩ := ob h5
  refine GX_callV_i (st := []) hC (C_Move_isAsTold hp_move1 isLand_8 e7) okX4_isAsTold lkX9_331 (olMove hp_move1) rfl rfl (Nat.le_of_ble_eq_true rfl) (Nat.le_of_ble_eq_true rfl) hk rfl (Nat.le_of_ble_eq_true rfl) dX9_mayBeDone_16 ?_
  refine GX_ifb_ne hC 24 dX9_mayBeDone_19 (by decide) (fun q => ?_) (fun q => ?_)
  · skip
    have h9 := ifT q h8
    refine GX_aload_n hC dX9_mayBeDone_24 rfl ?_
    refine GX_aload_n hC dX9_mayBeDone_25 rfl ?_
    refine GX_getR hC fkX9_16 ol_0 rfl dX9_mayBeDone_26 ?_
    obtain ⟨m10, e11, h12⟩ := ob h9
    refine GX_callV_v (st := []) hC (C_Move_doOn hp_move1 isLand_8 e11) okX4_doOn lkX9_334 (olMove hp_move1) rfl rfl (Nat.le_of_ble_eq_true rfl) (Nat.le_of_ble_eq_true rfl) hk rfl (Nat.le_of_ble_eq_true rfl) dX9_mayBeDone_29 ?_
    obtain ⟨c13, e14, h15⟩ := ob h12
    suffices hJ16 : GX Γ LAY 0 0 [some (.ref (gad Γ 0)), some (.ref (gad Γ move1))] [.int (bI c13)] m10 57 by
      have hc17 : true = c13 → GX Γ LAY 0 0 [some (.ref (gad Γ 0)), some (.ref (gad Γ move1))] [] m10 52 := by
        intro q
        subst q
        refine GX_iconst hC (bI true) dX9_mayBeDone_52 rfl ?_
        refine GX_goto hC 57 dX9_mayBeDone_53 (by decide) ?_
        exact hJ16
      have hc18 : false = c13 → GX Γ LAY 0 0 [some (.ref (gad Γ 0)), some (.ref (gad Γ move1))] [] m10 56 := by
        intro q
        subst q
        refine GX_iconst hC (bI false) dX9_mayBeDone_56 rfl ?_
        exact hJ16
      refine GX_aload_n hC dX9_mayBeDone_32 rfl ?_
      refine GX_getR hC fkX9_16 ol_0 rfl dX9_mayBeDone_33 ?_
      obtain ⟨b19, e20, h21⟩ := ob e14
      refine GX_callV_i (st := []) hC (C_Land_isLawful isLand_8 e20) okX2_isLawful lkX9_154 (olLand isLand_8) rfl rfl (Nat.le_of_ble_eq_true rfl) (Nat.le_of_ble_eq_true rfl) hk rfl (Nat.le_of_ble_eq_true rfl) dX9_mayBeDone_36 ?_
      refine GX_ifb_eq hC 56 dX9_mayBeDone_39 (by decide) (fun q => ?_) (fun q => ?_)
      · skip
        have h22 := ifT q h21
        refine GX_aload_n hC dX9_mayBeDone_42 rfl ?_
        refine GX_getR hC fkX9_16 ol_0 rfl dX9_mayBeDone_43 ?_
        obtain ⟨b23, e24, h25⟩ := ob h22
        refine GX_callV_i (st := []) hC (C_Land_nobodyOwes isLand_8 e24) okX2_nobodyOwes lkX9_337 (olLand isLand_8) rfl rfl (Nat.le_of_ble_eq_true rfl) (Nat.le_of_ble_eq_true rfl) hk rfl (Nat.le_of_ble_eq_true rfl) dX9_mayBeDone_46 ?_
        refine GX_ifb_eq hC 56 dX9_mayBeDone_49 (by decide) (fun q => ?_) (fun q => ?_)
        · skip
          exact hc17 (cbT q h25)
        · skip
          exact hc18 (cbF q h25)
      · skip
        have h26 := ifF q h21
        exact hc18 (oi h26)
    exact GX_zretW hC c13 hR dX9_mayBeDone_57 (oi h15)
  · skip
    have h27 := ifF q h8
    refine GX_iconst hC (bI false) dX9_mayBeDone_22 rfl ?_
    exact GX_zretW hC false hR dX9_mayBeDone_23 (oi h27)
set_option maxRecDepth 100000 in
set_option maxHeartbeats 4000000 in
theorem C_N_moveRefusal {l : Launch} {shelf1 : Nat} {m2 : MI} {r0 : Int32} (hp_shelf1 : isShelf shelf1) (hf : N_moveRefusal shelf1 m2 = some r0) : Cn l yX9_moveRefusal cX9_moveRefusal 3 (some .int) 2 LAY (fun ad => .ref (ad 0) :: [.ref (ad shelf1)]) m2 (fun _ => some (.int r0)) m2 := by
  refine Cn.of (fun ad => [some (.ref (ad 0)), some (.ref (ad shelf1)), none]) (by decide +kernel) (fun _ => rfl) (fun _ => Nat.le_of_ble_eq_true rfl) (fun Γ hl hC hR hk => ?_)
  subst hl
  replace hC : CX Γ cX9_moveRefusal RX9 LAY 2 3 := hC
  dsimp only [N_moveRefusal] at hf
  refine GX_aload_n hC dX9_moveRefusal_0 rfl ?_
  refine GX_iconst hC 1 dX9_moveRefusal_1 rfl ?_
  obtain ⟨r3, e4, h5⟩ := ob hf
  refine GX_callV_i (st := []) hC (C_Shelf_refusalUnless hp_shelf1 e4) okX8_refusalUnless lkX9_281 (olShelf hp_shelf1) rfl rfl (Nat.le_of_ble_eq_true rfl) (Nat.le_of_ble_eq_true rfl) hk rfl (Nat.le_of_ble_eq_true rfl) dX9_moveRefusal_2 ?_
  refine GX_istore_n hC [some (.ref (gad Γ 0)), some (.ref (gad Γ shelf1)), some (.int r3)] dX9_moveRefusal_5 (by decide) rfl rfl ?_
  obtain ⟨c6, e7, h8⟩ := ob h5
  have hc9 : true = c6 → GX Γ LAY 0 0 [some (.ref (gad Γ 0)), some (.ref (gad Γ shelf1)), some (.int r3)] [] m2 24 := by
    intro q
    have h10 := ifT q.symm h8
    refine GX_bipush hC (-13) dX9_moveRefusal_24 rfl ?_
    exact GX_iretR hC hR dX9_moveRefusal_26 (oi h10)
  have hc11 : false = c6 → GX Γ LAY 0 0 [some (.ref (gad Γ 0)), some (.ref (gad Γ shelf1)), some (.int r3)] [] m2 27 := by
    intro q
    have h12 := ifF q.symm h8
    refine GX_iload_n hC dX9_moveRefusal_27 rfl ?_
    exact GX_iretR hC hR dX9_moveRefusal_28 (oi h12)
  refine GX_iload_n hC dX9_moveRefusal_6 rfl ?_
  refine GX_if_ne_N hC 27 dX9_moveRefusal_7 (by decide) (fun q => ?_) (fun q => ?_)
  · skip
    have h13 := ifP q e7
    refine GX_aload_n hC dX9_moveRefusal_10 rfl ?_
    refine GX_getR hC fkX9_164 (olShelf hp_shelf1) rfl dX9_moveRefusal_11 ?_
    refine GX_aload_n hC dX9_moveRefusal_14 rfl ?_
    refine GX_getR hC fkX9_10 ol_0 rfl dX9_moveRefusal_15 ?_
    obtain ⟨b14, e15, h16⟩ := ob h13
    refine GX_callV_i (st := []) hC (C_Move_isThere (isMove_of hp_shelf1) isLand_1 e15) okX4_isThere lkX9_327 (olMove (isMove_of hp_shelf1)) rfl rfl (Nat.le_of_ble_eq_true rfl) (Nat.le_of_ble_eq_true rfl) hk rfl (Nat.le_of_ble_eq_true rfl) dX9_moveRefusal_18 ?_
    refine GX_ifb_ne hC 27 dX9_moveRefusal_21 (by decide) (fun q => ?_) (fun q => ?_)
    · skip
      exact hc11 (cbnT q h16)
    · skip
      exact hc9 (cbnF q h16)
  · skip
    have h17 := ifN q e7
    exact hc11 (oi h17)
set_option maxRecDepth 100000 in
set_option maxHeartbeats 4000000 in
theorem C_N_may {l : Launch} {d1 : Int32} {what2 : Int32} {m3 : MI} {r0 : Int32} {mr : MI}  (hf : N_may d1 what2 m3 = some (r0, mr)) : Cn l yX9_may cX9_may 6 (some .int) 6 LAY (fun ad => .ref (ad 0) :: [.int d1, .int what2]) m3 (fun _ => some (.int r0)) mr := by
  refine Cn.of (fun ad => [some (.ref (ad 0)), some (.int d1), some (.int what2), none, none, none]) (by decide +kernel) (fun _ => rfl) (fun _ => Nat.le_of_ble_eq_true rfl) (fun Γ hl hC hR hk => ?_)
  subst hl
  replace hC : CX Γ cX9_may RX9 LAY 6 6 := hC
  dsimp only [N_may] at hf
  refine GX_aload_n hC dX9_may_0 rfl ?_
  refine GX_iload_n hC dX9_may_1 rfl ?_
  rcases hs4 : N_shelfAt d1 with _ | s5
  · skip
    have h6 := onNn hs4 hf
    refine GX_callV_n (st := []) hC (C_N_shelfAt_n hs4) okX9_shelfAt lkX9_75 ol_0 rfl rfl (Nat.le_of_ble_eq_true rfl) (Nat.le_of_ble_eq_true rfl) hk rfl (Nat.le_of_ble_eq_true rfl) dX9_may_2 ?_
    refine GX_astore_nN hC [some (.ref (gad Γ 0)), some (.int d1), some (.int what2), some (.null), none, none] dX9_may_5 (by decide) rfl rfl ?_
    refine GX_aload_nN hC dX9_may_6 rfl ?_
    refine GX_ifnullN hC 19 dX9_may_7 (by decide) ?_
    refine GX_iconst hC (-1) dX9_may_19 rfl ?_
    exact GX_iretW hC hR dX9_may_20 (oi h6)
  · skip
    have h7 := onNs hs4 hf
    refine GX_callV_r (st := []) hC (C_N_shelfAt_s hs4) okX9_shelfAt lkX9_75 ol_0 rfl rfl (Nat.le_of_ble_eq_true rfl) (Nat.le_of_ble_eq_true rfl) hk rfl (Nat.le_of_ble_eq_true rfl) dX9_may_2 ?_
    have hsh8 := isShelf_at hs4
    refine GX_astore_n hC [some (.ref (gad Γ 0)), some (.int d1), some (.int what2), some (.ref (gad Γ s5)), none, none] dX9_may_5 (by decide) rfl rfl ?_
    obtain ⟨c9, e10, h11⟩ := ob h7
    have hc12 : true = c9 → GX Γ LAY 0 0 [some (.ref (gad Γ 0)), some (.int d1), some (.int what2), some (.ref (gad Γ s5)), none, none] [] m3 19 := by
      intro q
      have h13 := ifT q.symm h11
      refine GX_iconst hC (-1) dX9_may_19 rfl ?_
      exact GX_iretW hC hR dX9_may_20 (oi h13)
    have hc14 : false = c9 → GX Γ LAY 0 0 [some (.ref (gad Γ 0)), some (.int d1), some (.int what2), some (.ref (gad Γ s5)), none, none] [] m3 21 := by
      intro q
      have h15 := ifF q.symm h11
      refine GX_aload_n hC dX9_may_21 rfl ?_
      refine GX_aload_n hC dX9_may_22 rfl ?_
      obtain ⟨r16, e17, h18⟩ := ob h15
      refine GX_callV_i (st := []) hC (C_N_moveRefusal hsh8 e17) okX9_moveRefusal lkX9_161 ol_0 rfl rfl (Nat.le_of_ble_eq_true rfl) (Nat.le_of_ble_eq_true rfl) hk rfl (Nat.le_of_ble_eq_true rfl) dX9_may_23 ?_
      refine GX_istore hC [some (.ref (gad Γ 0)), some (.int d1), some (.int what2), some (.ref (gad Γ s5)), some (.int r16), none] dX9_may_26 (by decide) rfl rfl ?_
      refine GX_iload hC dX9_may_28 rfl ?_
      refine GX_if_eq_N hC 36 dX9_may_30 (by decide) (fun q => ?_) (fun q => ?_)
      · skip
        have h19 := ifP q h18
        refine GX_iload hC dX9_may_33 rfl ?_
        exact GX_iretW hC hR dX9_may_35 (oi h19)
      · skip
        have h20 := ifN q h18
        obtain ⟨⟨b21, m22⟩, e23, h24⟩ := ob h20
        suffices hJ25 : GX Γ LAY 0 0 [some (.ref (gad Γ 0)), some (.int d1), some (.int what2), some (.ref (gad Γ s5)), some (.int r16), none] [.int (bI b21)] m22 59 by
          refine GX_iload_n hC dX9_may_36 rfl ?_
          refine GX_if_ne_N hC 51 dX9_may_37 (by decide) (fun q => ?_) (fun q => ?_)
          · skip
            have h26 := ifP q e23
            refine GX_aload_n hC dX9_may_40 rfl ?_
            refine GX_aload_n hC dX9_may_41 rfl ?_
            refine GX_getR hC fkX9_164 (olShelf hsh8) rfl dX9_may_42 ?_
            obtain ⟨⟨b27, m28⟩, e29, h30⟩ := ob h26
            refine GX_callV_i (st := []) hC (C_N_mayBeDone (isMove_of hsh8) e29) okX9_mayBeDone lkX9_168 ol_0 rfl rfl (Nat.le_of_ble_eq_true rfl) (Nat.le_of_ble_eq_true rfl) hk rfl (Nat.le_of_ble_eq_true rfl) dX9_may_45 ?_
            refine GX_goto hC 59 dX9_may_48 (by decide) ?_
            cases oi h30
            exact hJ25
          · skip
            have h32 := ifN q e23
            refine GX_aload_n hC dX9_may_51 rfl ?_
            refine GX_aload_n hC dX9_may_52 rfl ?_
            refine GX_getR hC fkX9_164 (olShelf hsh8) rfl dX9_may_53 ?_
            obtain ⟨⟨b33, m34⟩, e35, h36⟩ := ob h32
            refine GX_callV_i (st := []) hC (C_N_isWanted (isMove_of hsh8) e35) okX9_isWanted lkX9_172 ol_0 rfl rfl (Nat.le_of_ble_eq_true rfl) (Nat.le_of_ble_eq_true rfl) hk rfl (Nat.le_of_ble_eq_true rfl) dX9_may_56 ?_
            cases oi h36
            exact hJ25
        refine GX_istore hC [some (.ref (gad Γ 0)), some (.int d1), some (.int what2), some (.ref (gad Γ s5)), some (.int r16), some (.int (bI b21))] dX9_may_59 (by decide) rfl rfl ?_
        obtain ⟨x38, e39, h40⟩ := ob h24
        suffices hJ41 : GX Γ LAY 0 0 [some (.ref (gad Γ 0)), some (.int d1), some (.int what2), some (.ref (gad Γ s5)), some (.int r16), some (.int (bI b21))] [.int x38] m22 71 by
          refine GX_iload hC dX9_may_61 rfl ?_
          refine GX_ifb_eq hC 70 dX9_may_63 (by decide) (fun q => ?_) (fun q => ?_)
          · skip
            have h42 := ifT q e39
            refine GX_iconst hC 1 dX9_may_66 rfl ?_
            refine GX_goto hC 71 dX9_may_67 (by decide) ?_
            exact GX_nm (oi h42) hJ41
          · skip
            have h43 := ifF q e39
            refine GX_iconst hC 0 dX9_may_70 rfl ?_
            exact GX_nm (oi h43) hJ41
        exact GX_iretW hC hR dX9_may_71 (oi h40)
    refine GX_aload_n hC dX9_may_6 rfl ?_
    refine GX_ifnull hC dX9_may_7 ?_
    refine GX_iload_n hC dX9_may_10 rfl ?_
    refine GX_if_lt_P hC 19 dX9_may_11 (by decide) (fun q => ?_) (fun q => ?_)
    · skip
      have h44 := ifP q e10
      exact hc12 (oi h44)
    · skip
      have h45 := ifN q e10
      refine GX_iload_n hC dX9_may_14 rfl ?_
      refine GX_iconst hC 1 dX9_may_15 rfl ?_
      refine GX_icmp_le_N hC 21 dX9_may_16 (by decide) (fun q => ?_) (fun q => ?_)
      · skip
        exact hc12 (cdT q h45)
      · skip
        exact hc14 (cdF q h45)
set_option maxRecDepth 100000 in
set_option maxHeartbeats 4000000 in
theorem C_N_move {l : Launch} {d1 : Int32} {m2 : MI} {r0 : Int32} {mr : MI}  (hf : N_move d1 m2 = some (r0, mr)) : Cn l yX9_move cX9_move 6 (some .int) 6 LAY (fun ad => .ref (ad 0) :: [.int d1]) m2 (fun _ => some (.int r0)) mr := by
  refine Cn.of (fun ad => [some (.ref (ad 0)), some (.int d1), none, none, none, none]) (by decide +kernel) (fun _ => rfl) (fun _ => Nat.le_of_ble_eq_true rfl) (fun Γ hl hC hR hk => ?_)
  subst hl
  replace hC : CX Γ cX9_move RX9 LAY 6 6 := hC
  dsimp only [N_move] at hf
  refine GX_aload_n hC dX9_move_0 rfl ?_
  refine GX_iload_n hC dX9_move_1 rfl ?_
  rcases hs3 : N_shelfAt d1 with _ | s4
  · skip
    have h5 := onNn hs3 hf
    refine GX_callV_n (st := []) hC (C_N_shelfAt_n hs3) okX9_shelfAt lkX9_75 ol_0 rfl rfl (Nat.le_of_ble_eq_true rfl) (Nat.le_of_ble_eq_true rfl) hk rfl (Nat.le_of_ble_eq_true rfl) dX9_move_2 ?_
    refine GX_astore_nN hC [some (.ref (gad Γ 0)), some (.int d1), some (.null), none, none, none] dX9_move_5 (by decide) rfl rfl ?_
    refine GX_aload_nN hC dX9_move_6 rfl ?_
    refine GX_ifnonnullN hC dX9_move_7 ?_
    refine GX_iconst hC (-1) dX9_move_10 rfl ?_
    exact GX_iretW hC hR dX9_move_11 (oi h5)
  · skip
    have h6 := onNs hs3 hf
    refine GX_callV_r (st := []) hC (C_N_shelfAt_s hs3) okX9_shelfAt lkX9_75 ol_0 rfl rfl (Nat.le_of_ble_eq_true rfl) (Nat.le_of_ble_eq_true rfl) hk rfl (Nat.le_of_ble_eq_true rfl) dX9_move_2 ?_
    have hsh7 := isShelf_at hs3
    refine GX_astore_n hC [some (.ref (gad Γ 0)), some (.int d1), some (.ref (gad Γ s4)), none, none, none] dX9_move_5 (by decide) rfl rfl ?_
    refine GX_aload_n hC dX9_move_6 rfl ?_
    refine GX_ifnonnull hC 12 dX9_move_7 (by decide) ?_
    refine GX_aload_n hC dX9_move_12 rfl ?_
    refine GX_aload_n hC dX9_move_13 rfl ?_
    obtain ⟨r8, e9, h10⟩ := ob h6
    refine GX_callV_i (st := []) hC (C_N_moveRefusal hsh7 e9) okX9_moveRefusal lkX9_161 ol_0 rfl rfl (Nat.le_of_ble_eq_true rfl) (Nat.le_of_ble_eq_true rfl) hk rfl (Nat.le_of_ble_eq_true rfl) dX9_move_14 ?_
    refine GX_istore_n hC [some (.ref (gad Γ 0)), some (.int d1), some (.ref (gad Γ s4)), some (.int r8), none, none] dX9_move_17 (by decide) rfl rfl ?_
    refine GX_iload_n hC dX9_move_18 rfl ?_
    refine GX_if_eq_N hC 24 dX9_move_19 (by decide) (fun q => ?_) (fun q => ?_)
    · skip
      have h11 := ifP q h10
      refine GX_iload_n hC dX9_move_22 rfl ?_
      exact GX_iretW hC hR dX9_move_23 (oi h11)
    · skip
      have h12 := ifN q h10
      refine GX_aload_n hC dX9_move_24 rfl ?_
      refine GX_aload_n hC dX9_move_25 rfl ?_
      refine GX_getR hC fkX9_164 (olShelf hsh7) rfl dX9_move_26 ?_
      obtain ⟨⟨b13, m14⟩, e15, h16⟩ := ob h12
      refine GX_callV_i (st := []) hC (C_N_mayBeDone (isMove_of hsh7) e15) okX9_mayBeDone lkX9_168 ol_0 rfl rfl (Nat.le_of_ble_eq_true rfl) (Nat.le_of_ble_eq_true rfl) hk rfl (Nat.le_of_ble_eq_true rfl) dX9_move_29 ?_
      refine GX_ifb_ne hC 38 dX9_move_32 (by decide) (fun q => ?_) (fun q => ?_)
      · skip
        have h17 := ifT q h16
        refine GX_iconst hC 0 dX9_move_38 rfl ?_
        refine GX_istore hC [some (.ref (gad Γ 0)), some (.int d1), some (.ref (gad Γ s4)), some (.int r8), some (.int 0), none] dX9_move_39 (by decide) rfl rfl ?_
        refine GX_iconst hC 0 dX9_move_41 rfl ?_
        refine GX_istore hC [some (.ref (gad Γ 0)), some (.int d1), some (.ref (gad Γ s4)), some (.int r8), some (.int 0), some (.int 0)] dX9_move_42 (by decide) rfl rfl ?_
        obtain ⟨o18, e19, h20⟩ := ob h17
        suffices hJ21 : ∀ (changed24 : Int32), changed24 = o18 → GX Γ LAY 0 0 [some (.ref (gad Γ 0)), some (.int d1), some (.ref (gad Γ s4)), some (.int r8), some (.int changed24), none] [] m14 93 by
          refine lp_walk (P := fun s => GX Γ LAY 0 0 [some (.ref (gad Γ 0)), some (.int d1), some (.ref (gad Γ s4)), some (.int r8), some (.int s.1), some (.int s.2)] [] m14 44) (fun s x hx21 hI21 hO21 => ?_) _ _ e19
          obtain ⟨changed22, f23⟩ := s
          show GX Γ LAY 0 0 [some (.ref (gad Γ 0)), some (.int d1), some (.ref (gad Γ s4)), some (.int r8), some (.int changed22), some (.int f23)] [] m14 44
          dsimp only [N_move_s1] at hx21
          refine GX_iload hC dX9_move_44 rfl ?_
          refine GX_aload_n hC dX9_move_46 rfl ?_
          refine GX_getR hC fkX9_10 ol_0 rfl dX9_move_47 ?_
          refine GX_getI hC fkX9_175 (olLand isLand_1) rfl dX9_move_50 ?_
          refine GX_icmp_ge_N hC 93 dX9_move_53 (by decide) (fun q => ?_) (fun q => ?_)
          · skip
            have h25 := ifP q hx21
            refine GX_iload hC dX9_move_56 rfl ?_
            obtain ⟨x26, e27, h28⟩ := ob h25
            suffices hJ29 : GX Γ LAY 0 0 [some (.ref (gad Γ 0)), some (.int d1), some (.ref (gad Γ s4)), some (.int r8), some (.int changed22), some (.int f23)] [.int x26, .int changed22] m14 84 by
              refine GX_aload_n hC dX9_move_58 rfl ?_
              refine GX_getR hC fkX9_16 ol_0 rfl dX9_move_59 ?_
              refine GX_iload hC dX9_move_62 rfl ?_
              obtain ⟨r30, e31, h32⟩ := ob e27
              refine GX_callV_i (st := [.int changed22]) hC (C_Land_ownerOf isLand_8 e31) okX2_ownerOf lkX9_103 (olLand isLand_8) rfl rfl (Nat.le_of_ble_eq_true rfl) (Nat.le_of_ble_eq_true rfl) hk rfl (Nat.le_of_ble_eq_true rfl) dX9_move_64 ?_
              refine GX_aload_n hC dX9_move_67 rfl ?_
              refine GX_getR hC fkX9_10 ol_0 rfl dX9_move_68 ?_
              refine GX_iload hC dX9_move_71 rfl ?_
              obtain ⟨r33, e34, h35⟩ := ob h32
              refine GX_callV_i (st := [.int r30, .int changed22]) hC (C_Land_ownerOf isLand_1 e34) okX2_ownerOf lkX9_103 (olLand isLand_1) rfl rfl (Nat.le_of_ble_eq_true rfl) (Nat.le_of_ble_eq_true rfl) hk rfl (Nat.le_of_ble_eq_true rfl) dX9_move_73 ?_
              refine GX_icmp_ne_N hC 83 dX9_move_76 (by decide) (fun q => ?_) (fun q => ?_)
              · skip
                have h36 := ifP q h35
                refine GX_iconst hC 0 dX9_move_79 rfl ?_
                refine GX_goto hC 84 dX9_move_80 (by decide) ?_
                exact GX_nm (oi h36) hJ29
              · skip
                have h37 := ifN q h35
                refine GX_iconst hC 1 dX9_move_83 rfl ?_
                exact GX_nm (oi h37) hJ29
            refine GX_iadd hC dX9_move_84 ?_
            obtain ⟨changed38, e39, h40⟩ := ob h28
            refine GX_nm (oi e39) ?_
            refine GX_istore hC [some (.ref (gad Γ 0)), some (.int d1), some (.ref (gad Γ s4)), some (.int r8), some (.int changed38), some (.int f23)] dX9_move_85 (by decide) rfl rfl ?_
            obtain ⟨i41, e42, h43⟩ := ob h40
            refine GX_iinc hC i41 [some (.ref (gad Γ 0)), some (.int d1), some (.ref (gad Γ s4)), some (.int r8), some (.int changed38), some (.int i41)] dX9_move_87 rfl (oi e42) (by decide) rfl rfl ?_
            refine GX_goto hC 44 dX9_move_90 (by decide) ?_
            exact hI21 _ (oi h43).symm
          · skip
            have h44 := ifN q hx21
            exact GX.le (hJ21 _ (hO21 _ (oi h44).symm)) ⟨rfl, ⟨rfl, ⟨rfl, ⟨rfl, ⟨rfl, trivial⟩⟩⟩⟩⟩
        intro changed24 q45
        subst q45
        refine GX_aload_n hC dX9_move_93 rfl ?_
        refine GX_getR hC fkX9_10 ol_0 rfl dX9_move_94 ?_
        refine GX_aload_n hC dX9_move_97 rfl ?_
        refine GX_getR hC fkX9_16 ol_0 rfl dX9_move_98 ?_
        obtain ⟨m46, e47, h48⟩ := ob h20
        refine GX_callV_v (st := []) hC (C_Land_copyFrom isLand_1 isLand_8 e47) okX2_copyFrom lkX9_87 (olLand isLand_1) rfl rfl (Nat.le_of_ble_eq_true rfl) (Nat.le_of_ble_eq_true rfl) hk rfl (Nat.le_of_ble_eq_true rfl) dX9_move_101 ?_
        refine GX_iload hC dX9_move_104 rfl ?_
        exact GX_iretW hC hR dX9_move_106 (oi h48)
      · skip
        have h49 := ifF q h16
        refine GX_bipush hC (-3) dX9_move_35 rfl ?_
        exact GX_iretW hC hR dX9_move_37 (oi h49)
set_option maxRecDepth 100000 in
set_option maxHeartbeats 4000000 in
theorem C_N_judge {l : Launch} {d1 : Int32} {m2 : MI} {r0 : Int32} {mr : MI}  (hf : N_judge d1 m2 = some (r0, mr)) : Cn l yX9_judge cX9_judge 6 (some .int) 4 LAY (fun ad => .ref (ad 0) :: [.int d1]) m2 (fun _ => some (.int r0)) mr := by
  refine Cn.of (fun ad => [some (.ref (ad 0)), some (.int d1), none, none, none, none]) (by decide +kernel) (fun _ => rfl) (fun _ => Nat.le_of_ble_eq_true rfl) (fun Γ hl hC hR hk => ?_)
  subst hl
  replace hC : CX Γ cX9_judge RX9 LAY 4 6 := hC
  dsimp only [N_judge] at hf
  refine GX_aload_n hC dX9_judge_0 rfl ?_
  refine GX_iload_n hC dX9_judge_1 rfl ?_
  rcases hs3 : N_shelfAt d1 with _ | s4
  · skip
    have h5 := onNn hs3 hf
    refine GX_callV_n (st := []) hC (C_N_shelfAt_n hs3) okX9_shelfAt lkX9_75 ol_0 rfl rfl (Nat.le_of_ble_eq_true rfl) (Nat.le_of_ble_eq_true rfl) hk rfl (Nat.le_of_ble_eq_true rfl) dX9_judge_2 ?_
    refine GX_astore_nN hC [some (.ref (gad Γ 0)), some (.int d1), some (.null), none, none, none] dX9_judge_5 (by decide) rfl rfl ?_
    refine GX_aload_nN hC dX9_judge_6 rfl ?_
    refine GX_ifnonnullN hC dX9_judge_7 ?_
    refine GX_iconst hC (-1) dX9_judge_10 rfl ?_
    exact GX_iretW hC hR dX9_judge_11 (oi h5)
  · skip
    have h6 := onNs hs3 hf
    refine GX_callV_r (st := []) hC (C_N_shelfAt_s hs3) okX9_shelfAt lkX9_75 ol_0 rfl rfl (Nat.le_of_ble_eq_true rfl) (Nat.le_of_ble_eq_true rfl) hk rfl (Nat.le_of_ble_eq_true rfl) dX9_judge_2 ?_
    have hsh7 := isShelf_at hs3
    refine GX_astore_n hC [some (.ref (gad Γ 0)), some (.int d1), some (.ref (gad Γ s4)), none, none, none] dX9_judge_5 (by decide) rfl rfl ?_
    refine GX_aload_n hC dX9_judge_6 rfl ?_
    refine GX_ifnonnull hC 12 dX9_judge_7 (by decide) ?_
    refine GX_aload_n hC dX9_judge_12 rfl ?_
    obtain ⟨r8, e9, h10⟩ := ob h6
    refine GX_callV_i (st := []) hC (C_Shelf_bytesRefusal hsh7 e9) okX8_bytesRefusal lkX9_79 (olShelf hsh7) rfl rfl (Nat.le_of_ble_eq_true rfl) (Nat.le_of_ble_eq_true rfl) hk rfl (Nat.le_of_ble_eq_true rfl) dX9_judge_13 ?_
    refine GX_istore_n hC [some (.ref (gad Γ 0)), some (.int d1), some (.ref (gad Γ s4)), some (.int r8), none, none] dX9_judge_16 (by decide) rfl rfl ?_
    refine GX_iload_n hC dX9_judge_17 rfl ?_
    refine GX_if_eq_N hC 23 dX9_judge_18 (by decide) (fun q => ?_) (fun q => ?_)
    · skip
      have h11 := ifP q h10
      refine GX_iload_n hC dX9_judge_21 rfl ?_
      exact GX_iretW hC hR dX9_judge_22 (oi h11)
    · skip
      have h12 := ifN q h10
      refine GX_aload_n hC dX9_judge_23 rfl ?_
      refine GX_getR hC fkX9_16 ol_0 rfl dX9_judge_24 ?_
      refine GX_aload_n hC dX9_judge_27 rfl ?_
      refine GX_getR hC fkX9_10 ol_0 rfl dX9_judge_28 ?_
      obtain ⟨m13, e14, h15⟩ := ob h12
      refine GX_callV_v (st := []) hC (C_Land_copyFrom isLand_8 isLand_1 e14) okX2_copyFrom lkX9_87 (olLand isLand_8) rfl rfl (Nat.le_of_ble_eq_true rfl) (Nat.le_of_ble_eq_true rfl) hk rfl (Nat.le_of_ble_eq_true rfl) dX9_judge_31 ?_
      refine GX_iconst hC 0 dX9_judge_34 rfl ?_
      refine GX_istore hC [some (.ref (gad Γ 0)), some (.int d1), some (.ref (gad Γ s4)), some (.int r8), some (.int 0), none] dX9_judge_35 (by decide) rfl rfl ?_
      obtain ⟨o16, e17, h18⟩ := ob h15
      have hR19 : ∀ res : Int32 × MI, Sum.inr res = o16 → res = (r0, mr) := by
        intro res q
        subst q
        have h18 := seR h18
        exact (oi h18)
      suffices hJ19 : ∀ (m22 : MI), Sum.inl m22 = o16 → GX Γ LAY 0 0 [some (.ref (gad Γ 0)), some (.int d1), some (.ref (gad Γ s4)), some (.int r8), none, none] [] m22 95 by
        refine lp_walk (P := fun s => GX Γ LAY 0 0 [some (.ref (gad Γ 0)), some (.int d1), some (.ref (gad Γ s4)), some (.int r8), some (.int s.1), none] [] s.2 37) (fun s x hx19 hI19 hO19 => ?_) _ _ e17
        obtain ⟨i20, m21⟩ := s
        show GX Γ LAY 0 0 [some (.ref (gad Γ 0)), some (.int d1), some (.ref (gad Γ s4)), some (.int r8), some (.int i20), none] [] m21 37
        dsimp only [N_judge_s1] at hx19
        refine GX_iload hC dX9_judge_37 rfl ?_
        refine GX_iconst hC 1 dX9_judge_39 rfl ?_
        refine GX_iadd hC dX9_judge_40 ?_
        refine GX_aload_n hC dX9_judge_41 rfl ?_
        refine GX_getI hC fkX9_179 (olShelf hsh7) rfl dX9_judge_42 ?_
        refine GX_icmp_ge_N hC 95 dX9_judge_45 (by decide) (fun q => ?_) (fun q => ?_)
        · skip
          have h23 := ifP q hx19
          refine GX_aload_n hC dX9_judge_48 rfl ?_
          refine GX_getR hC fkX9_16 ol_0 rfl dX9_judge_49 ?_
          refine GX_aload_n hC dX9_judge_52 rfl ?_
          refine GX_iload hC dX9_judge_53 rfl ?_
          obtain ⟨r24, e25, h26⟩ := ob h23
          refine GX_callV_i (st := [.ref (gad Γ 8)]) hC (C_Shelf_at hsh7 e25) okX8_at lkX9_182 (olShelf hsh7) rfl rfl (Nat.le_of_ble_eq_true rfl) (Nat.le_of_ble_eq_true rfl) hk rfl (Nat.le_of_ble_eq_true rfl) dX9_judge_55 ?_
          refine GX_aload_n hC dX9_judge_58 rfl ?_
          refine GX_iload hC dX9_judge_59 rfl ?_
          refine GX_iconst hC 1 dX9_judge_61 rfl ?_
          refine GX_iadd hC dX9_judge_62 ?_
          obtain ⟨r27, e28, h29⟩ := ob h26
          refine GX_callV_i (st := [.int r24, .ref (gad Γ 8)]) hC (C_Shelf_at hsh7 e28) okX8_at lkX9_182 (olShelf hsh7) rfl rfl (Nat.le_of_ble_eq_true rfl) (Nat.le_of_ble_eq_true rfl) hk rfl (Nat.le_of_ble_eq_true rfl) dX9_judge_63 ?_
          obtain ⟨⟨b30, m31⟩, e32, h33⟩ := ob h29
          refine GX_callV_i (st := []) hC (C_Land_give isLand_8 e32) okX2_give lkX9_151 (olLand isLand_8) rfl rfl (Nat.le_of_ble_eq_true rfl) (Nat.le_of_ble_eq_true rfl) hk rfl (Nat.le_of_ble_eq_true rfl) dX9_judge_66 ?_
          refine GX_istore hC [some (.ref (gad Γ 0)), some (.int d1), some (.ref (gad Γ s4)), some (.int r8), some (.int i20), some (.int (bI b30))] dX9_judge_69 (by decide) rfl rfl ?_
          obtain ⟨c34, e35, h36⟩ := ob h33
          have hc37 : true = c34 → GX Γ LAY 0 0 [some (.ref (gad Γ 0)), some (.int d1), some (.ref (gad Γ s4)), some (.int r8), some (.int i20), some (.int (bI b30))] [] m31 86 := by
            intro q
            have h38 := ifT q.symm h36
            refine GX_iload hC dX9_judge_86 rfl ?_
            exact GX_iretW hC hR dX9_judge_88 (hR19 _ (hO19 _ (oi h38).symm))
          have hc39 : false = c34 → GX Γ LAY 0 0 [some (.ref (gad Γ 0)), some (.int d1), some (.ref (gad Γ s4)), some (.int r8), some (.int i20), some (.int (bI b30))] [] m31 89 := by
            intro q
            have h40 := ifF q.symm h36
            obtain ⟨i41, e42, h43⟩ := ob h40
            refine GX_iinc hC i41 [some (.ref (gad Γ 0)), some (.int d1), some (.ref (gad Γ s4)), some (.int r8), some (.int i41), some (.int (bI b30))] dX9_judge_89 rfl (oi e42) (by decide) rfl rfl ?_
            refine GX_goto hC 37 dX9_judge_92 (by decide) ?_
            exact GX.le (hI19 _ (oi h43).symm) ⟨rfl, ⟨rfl, ⟨rfl, ⟨rfl, ⟨rfl, trivial⟩⟩⟩⟩⟩
          refine GX_iload hC dX9_judge_71 rfl ?_
          refine GX_ifb_eq hC 86 dX9_judge_73 (by decide) (fun q => ?_) (fun q => ?_)
          · skip
            have h44 := ifT q e35
            refine GX_aload_n hC dX9_judge_76 rfl ?_
            refine GX_getR hC fkX9_16 ol_0 rfl dX9_judge_77 ?_
            obtain ⟨b45, e46, h47⟩ := ob h44
            refine GX_callV_i (st := []) hC (C_Land_isLawful isLand_8 e46) okX2_isLawful lkX9_154 (olLand isLand_8) rfl rfl (Nat.le_of_ble_eq_true rfl) (Nat.le_of_ble_eq_true rfl) hk rfl (Nat.le_of_ble_eq_true rfl) dX9_judge_80 ?_
            refine GX_ifb_ne hC 89 dX9_judge_83 (by decide) (fun q => ?_) (fun q => ?_)
            · skip
              exact hc39 (cbnT q h47)
            · skip
              exact hc37 (cbnF q h47)
          · skip
            have h48 := ifF q e35
            exact hc37 (oi h48)
        · skip
          have h49 := ifN q hx19
          exact GX.le (hJ19 _ (hO19 _ (oi h49).symm)) ⟨rfl, ⟨rfl, ⟨rfl, ⟨rfl, trivial⟩⟩⟩⟩
      intro m22 q50
      subst q50
      have h18 := seL h18
      obtain ⟨x51, e52, h53⟩ := ob h18
      suffices hJ54 : GX Γ LAY 0 0 [some (.ref (gad Γ 0)), some (.int d1), some (.ref (gad Γ s4)), some (.int r8), none, none] [.int x51] m22 114 by
        refine GX_aload_n hC dX9_judge_95 rfl ?_
        refine GX_getI hC fkX9_179 (olShelf hsh7) rfl dX9_judge_96 ?_
        refine GX_iconst hC 2 dX9_judge_99 rfl ?_
        refine GX_irem hC dX9_judge_100 (by decide) ?_
        refine GX_iconst hC 1 dX9_judge_101 rfl ?_
        refine GX_icmp_ne_N hC 112 dX9_judge_102 (by decide) (fun q => ?_) (fun q => ?_)
        · skip
          have h55 := ifP q e52
          refine GX_aload_n hC dX9_judge_105 rfl ?_
          refine GX_getI hC fkX9_179 (olShelf hsh7) rfl dX9_judge_106 ?_
          refine GX_goto hC 114 dX9_judge_109 (by decide) ?_
          exact GX_nm (oi h55) hJ54
        · skip
          have h56 := ifN q e52
          refine GX_bipush hC (-4) dX9_judge_112 rfl ?_
          exact GX_nm (oi h56) hJ54
      exact GX_iretW hC hR dX9_judge_114 (oi h53)
set_option maxRecDepth 100000 in
set_option maxHeartbeats 4000000 in
theorem C_N_fewest {l : Launch} {field1 : Int32} {m2 : MI} {r0 : Int32} {mr : MI}  (hf : N_fewest field1 m2 = some (r0, mr)) : Cn l yX9_fewest cX9_fewest 3 (some .int) 25 LAY (fun ad => .ref (ad 0) :: [.int field1]) m2 (fun _ => some (.int r0)) mr := by
  refine Cn.of (fun ad => [some (.ref (ad 0)), some (.int field1), none]) (by decide +kernel) (fun _ => rfl) (fun _ => Nat.le_of_ble_eq_true rfl) (fun Γ hl hC hR hk => ?_)
  subst hl
  replace hC : CX Γ cX9_fewest RX9 LAY 25 3 := hC
  dsimp only [N_fewest] at hf
  obtain ⟨c3, e4, h5⟩ := ob hf
  have hc6 : true = c3 → GX Γ LAY 0 0 [some (.ref (gad Γ 0)), some (.int field1), none] [] m2 16 := by
    intro q
    have h7 := ifT q.symm h5
    refine GX_iconst hC (-1) dX9_fewest_16 rfl ?_
    exact GX_iretW hC hR dX9_fewest_17 (oi h7)
  have hc8 : false = c3 → GX Γ LAY 0 0 [some (.ref (gad Γ 0)), some (.int field1), none] [] m2 18 := by
    intro q
    have h9 := ifF q.symm h5
    refine GX_aload_n hC dX9_fewest_18 rfl ?_
    refine GX_getR hC fkX9_49 ol_0 rfl dX9_fewest_19 ?_
    refine GX_aload_n hC dX9_fewest_22 rfl ?_
    refine GX_getR hC fkX9_10 ol_0 rfl dX9_fewest_23 ?_
    obtain ⟨⟨r10, m11⟩, e12, h13⟩ := ob h9
    refine GX_callV_i (st := []) hC (C_Numbering_fewestFor isLand_1 e12) okX5_fewestFor lkX9_185 ol_28 rfl rfl (Nat.le_of_ble_eq_true rfl) (Nat.le_of_ble_eq_true rfl) hk rfl (Nat.le_of_ble_eq_true rfl) dX9_fewest_26 ?_
    refine GX_istore_n hC [some (.ref (gad Γ 0)), some (.int field1), some (.int r10)] dX9_fewest_29 (by decide) rfl rfl ?_
    obtain ⟨x14, e15, h16⟩ := ob h13
    suffices hJ17 : GX Γ LAY 0 0 [some (.ref (gad Γ 0)), some (.int field1), some (.int r10)] [.int x14] m11 47 by
      refine GX_iload_n hC dX9_fewest_30 rfl ?_
      refine GX_iconst hC (-1) dX9_fewest_31 rfl ?_
      refine GX_icmp_ne_N hC 39 dX9_fewest_32 (by decide) (fun q => ?_) (fun q => ?_)
      · skip
        have h18 := ifP q e15
        refine GX_iload_n hC dX9_fewest_35 rfl ?_
        refine GX_goto hC 47 dX9_fewest_36 (by decide) ?_
        exact GX_nm (oi h18) hJ17
      · skip
        have h19 := ifN q e15
        refine GX_aload_n hC dX9_fewest_39 rfl ?_
        refine GX_getR hC fkX9_49 ol_0 rfl dX9_fewest_40 ?_
        refine GX_iload_n hC dX9_fewest_43 rfl ?_
        obtain ⟨r20, e21, h22⟩ := ob h19
        refine GX_callV_i (st := []) hC (C_Numbering_numberOf e21) okX5_numberOf lkX9_189 ol_28 rfl rfl (Nat.le_of_ble_eq_true rfl) (Nat.le_of_ble_eq_true rfl) hk rfl (Nat.le_of_ble_eq_true rfl) dX9_fewest_44 ?_
        exact GX_nm (oi h22) hJ17
    exact GX_iretW hC hR dX9_fewest_47 (oi h16)
  refine GX_iload_n hC dX9_fewest_0 rfl ?_
  refine GX_iconst hC (-1) dX9_fewest_1 rfl ?_
  refine GX_icmp_eq_N hC 18 dX9_fewest_2 (by decide) (fun q => ?_) (fun q => ?_)
  · skip
    have h23 := ifP q e4
    refine GX_aload_n hC dX9_fewest_5 rfl ?_
    refine GX_getR hC fkX9_10 ol_0 rfl dX9_fewest_6 ?_
    refine GX_iload_n hC dX9_fewest_9 rfl ?_
    obtain ⟨b24, e25, h26⟩ := ob h23
    refine GX_callV_i (st := []) hC (C_Land_isField isLand_1 e25) okX2_isField lkX9_95 (olLand isLand_1) rfl rfl (Nat.le_of_ble_eq_true rfl) (Nat.le_of_ble_eq_true rfl) hk rfl (Nat.le_of_ble_eq_true rfl) dX9_fewest_10 ?_
    refine GX_ifb_ne hC 18 dX9_fewest_13 (by decide) (fun q => ?_) (fun q => ?_)
    · skip
      exact hc8 (cbnT q h26)
    · skip
      exact hc6 (cbnF q h26)
  · skip
    have h27 := ifN q e4
    exact hc8 (oi h27)
set_option maxRecDepth 100000 in
set_option maxHeartbeats 4000000 in
theorem C_N_mostBits {l : Launch} {person1 : Int32} {m2 : MI} {r0 : Int32}  (hf : N_mostBits person1 m2 = some r0) : Cn l yX9_mostBits cX9_mostBits 7 (some .int) 4 LAY (fun ad => .ref (ad 0) :: [.int person1]) m2 (fun _ => some (.int r0)) m2 := by
  refine Cn.of (fun ad => [some (.ref (ad 0)), some (.int person1), none, none, none, none, none]) (by decide +kernel) (fun _ => rfl) (fun _ => Nat.le_of_ble_eq_true rfl) (fun Γ hl hC hR hk => ?_)
  subst hl
  replace hC : CX Γ cX9_mostBits RX9 LAY 4 7 := hC
  dsimp only [N_mostBits] at hf
  refine GX_iconst hC 0 dX9_mostBits_0 rfl ?_
  refine GX_istore_n hC [some (.ref (gad Γ 0)), some (.int person1), some (.int 0), none, none, none, none] dX9_mostBits_1 (by decide) rfl rfl ?_
  refine GX_iconst hC 0 dX9_mostBits_2 rfl ?_
  refine GX_istore_n hC [some (.ref (gad Γ 0)), some (.int person1), some (.int 0), some (.int 0), none, none, none] dX9_mostBits_3 (by decide) rfl rfl ?_
  obtain ⟨o3, e4, h5⟩ := ob hf
  suffices hJ6 : ∀ (othersBits9 : Int32), othersBits9 = o3 → GX Γ LAY 0 0 [some (.ref (gad Γ 0)), some (.int person1), some (.int othersBits9), none, none, none, none] [] m2 54 by
    refine lp_walk (P := fun s => GX Γ LAY 0 0 [some (.ref (gad Γ 0)), some (.int person1), some (.int s.1), some (.int s.2), none, none, none] [] m2 4) (fun s x hx6 hI6 hO6 => ?_) _ _ e4
    obtain ⟨othersBits7, f8⟩ := s
    show GX Γ LAY 0 0 [some (.ref (gad Γ 0)), some (.int person1), some (.int othersBits7), some (.int f8), none, none, none] [] m2 4
    dsimp only [N_mostBits_s1] at hx6
    refine GX_iload_n hC dX9_mostBits_4 rfl ?_
    refine GX_aload_n hC dX9_mostBits_5 rfl ?_
    refine GX_getR hC fkX9_10 ol_0 rfl dX9_mostBits_6 ?_
    refine GX_getI hC fkX9_175 (olLand isLand_1) rfl dX9_mostBits_9 ?_
    refine GX_icmp_ge_N hC 54 dX9_mostBits_12 (by decide) (fun q => ?_) (fun q => ?_)
    · skip
      have h10 := ifP q hx6
      refine GX_aload_n hC dX9_mostBits_15 rfl ?_
      refine GX_getR hC fkX9_10 ol_0 rfl dX9_mostBits_16 ?_
      refine GX_iload_n hC dX9_mostBits_19 rfl ?_
      obtain ⟨r11, e12, h13⟩ := ob h10
      refine GX_callV_i (st := []) hC (C_Land_ownerOf isLand_1 e12) okX2_ownerOf lkX9_103 (olLand isLand_1) rfl rfl (Nat.le_of_ble_eq_true rfl) (Nat.le_of_ble_eq_true rfl) hk rfl (Nat.le_of_ble_eq_true rfl) dX9_mostBits_20 ?_
      refine GX_istore hC [some (.ref (gad Γ 0)), some (.int person1), some (.int othersBits7), some (.int f8), some (.int r11), none, none] dX9_mostBits_23 (by decide) rfl rfl ?_
      refine GX_iload_n hC dX9_mostBits_25 rfl ?_
      obtain ⟨x14, e15, h16⟩ := ob h13
      suffices hJ17 : GX Γ LAY 0 0 [some (.ref (gad Γ 0)), some (.int person1), some (.int othersBits7), some (.int f8), some (.int r11), none, none] [.int x14, .int othersBits7] m2 46 by
        obtain ⟨c18, e19, h20⟩ := ob e15
        have hc21 : true = c18 → GX Γ LAY 0 0 [some (.ref (gad Γ 0)), some (.int person1), some (.int othersBits7), some (.int f8), some (.int r11), none, none] [.int othersBits7] m2 39 := by
          intro q
          have h22 := ifT q.symm h20
          refine GX_iconst hC 0 dX9_mostBits_39 rfl ?_
          refine GX_goto hC 46 dX9_mostBits_40 (by decide) ?_
          exact GX_nm (oi h22) hJ17
        have hc23 : false = c18 → GX Γ LAY 0 0 [some (.ref (gad Γ 0)), some (.int person1), some (.int othersBits7), some (.int f8), some (.int r11), none, none] [.int othersBits7] m2 43 := by
          intro q
          have h24 := ifF q.symm h20
          refine GX_iconst hC 1 dX9_mostBits_43 rfl ?_
          refine GX_iload_n hC dX9_mostBits_44 rfl ?_
          refine GX_ishl hC dX9_mostBits_45 ?_
          exact GX_nm (oi h24) hJ17
        refine GX_iload hC dX9_mostBits_26 rfl ?_
        refine GX_bipush hC 9 dX9_mostBits_28 rfl ?_
        refine GX_icmp_eq_P hC 39 dX9_mostBits_30 (by decide) (fun q => ?_) (fun q => ?_)
        · skip
          have h25 := ifP q e19
          exact hc21 (oi h25)
        · skip
          have h26 := ifN q e19
          refine GX_iload hC dX9_mostBits_33 rfl ?_
          refine GX_iload_n hC dX9_mostBits_35 rfl ?_
          refine GX_icmp_ne_N hC 43 dX9_mostBits_36 (by decide) (fun q => ?_) (fun q => ?_)
          · skip
            exact hc21 (cdT q h26)
          · skip
            exact hc23 (cdF q h26)
      refine GX_ior hC dX9_mostBits_46 ?_
      obtain ⟨othersBits27, e28, h29⟩ := ob h16
      refine GX_nm (oi e28) ?_
      refine GX_istore_n hC [some (.ref (gad Γ 0)), some (.int person1), some (.int othersBits27), some (.int f8), some (.int r11), none, none] dX9_mostBits_47 (by decide) rfl rfl ?_
      obtain ⟨i30, e31, h32⟩ := ob h29
      refine GX_iinc hC i30 [some (.ref (gad Γ 0)), some (.int person1), some (.int othersBits27), some (.int i30), some (.int r11), none, none] dX9_mostBits_48 rfl (oi e31) (by decide) rfl rfl ?_
      refine GX_goto hC 4 dX9_mostBits_51 (by decide) ?_
      exact GX.le (hI6 _ (oi h32).symm) ⟨rfl, ⟨rfl, ⟨rfl, ⟨rfl, trivial⟩⟩⟩⟩
    · skip
      have h33 := ifN q hx6
      exact GX.le (hJ6 _ (hO6 _ (oi h33).symm)) ⟨rfl, ⟨rfl, ⟨rfl, trivial⟩⟩⟩
  intro othersBits9 q34
  subst q34
  refine GX_iconst hC 0 dX9_mostBits_54 rfl ?_
  refine GX_istore_n hC [some (.ref (gad Γ 0)), some (.int person1), some (.int othersBits9), some (.int 0), none, none, none] dX9_mostBits_55 (by decide) rfl rfl ?_
  refine GX_iconst hC 0 dX9_mostBits_56 rfl ?_
  refine GX_istore hC [some (.ref (gad Γ 0)), some (.int person1), some (.int othersBits9), some (.int 0), some (.int 0), none, none] dX9_mostBits_57 (by decide) rfl rfl ?_
  refine GX_iconst hC 0 dX9_mostBits_59 rfl ?_
  refine GX_istore hC [some (.ref (gad Γ 0)), some (.int person1), some (.int othersBits9), some (.int 0), some (.int 0), some (.int 0), none] dX9_mostBits_60 (by decide) rfl rfl ?_
  obtain ⟨o35, e36, h37⟩ := ob h5
  suffices hJ38 : ∀ (mostBits42 : Int32) (mostWorth43 : Int32), (mostBits42, mostWorth43) = o35 → GX Γ LAY 0 0 [some (.ref (gad Γ 0)), some (.int person1), some (.int othersBits9), some (.int mostBits42), some (.int mostWorth43), none, none] [] m2 127 by
    refine lp_walk (P := fun s => GX Γ LAY 0 0 [some (.ref (gad Γ 0)), some (.int person1), some (.int othersBits9), some (.int s.1), some (.int s.2.1), some (.int s.2.2), none] [] m2 62) (fun s x hx38 hI38 hO38 => ?_) _ _ e36
    obtain ⟨mostBits39, mostWorth40, bits41⟩ := s
    show GX Γ LAY 0 0 [some (.ref (gad Γ 0)), some (.int person1), some (.int othersBits9), some (.int mostBits39), some (.int mostWorth40), some (.int bits41), none] [] m2 62
    dsimp only [N_mostBits_s2] at hx38
    refine GX_iload hC dX9_mostBits_62 rfl ?_
    refine GX_iconst hC 1 dX9_mostBits_64 rfl ?_
    refine GX_aload_n hC dX9_mostBits_65 rfl ?_
    refine GX_getR hC fkX9_10 ol_0 rfl dX9_mostBits_66 ?_
    refine GX_getI hC fkX9_175 (olLand isLand_1) rfl dX9_mostBits_69 ?_
    refine GX_ishl hC dX9_mostBits_72 ?_
    refine GX_icmp_ge_N hC 127 dX9_mostBits_73 (by decide) (fun q => ?_) (fun q => ?_)
    · skip
      have h44 := ifP q hx38
      refine GX_aload_n hC dX9_mostBits_76 rfl ?_
      refine GX_getR hC fkX9_10 ol_0 rfl dX9_mostBits_77 ?_
      refine GX_iload_n hC dX9_mostBits_80 rfl ?_
      refine GX_iload hC dX9_mostBits_81 rfl ?_
      obtain ⟨r45, e46, h47⟩ := ob h44
      refine GX_callV_i (st := []) hC (C_Land_worthOfBits isLand_1 e46) okX2_worthOfBits lkX9_195 (olLand isLand_1) rfl rfl (Nat.le_of_ble_eq_true rfl) (Nat.le_of_ble_eq_true rfl) hk rfl (Nat.le_of_ble_eq_true rfl) dX9_mostBits_83 ?_
      refine GX_istore hC [some (.ref (gad Γ 0)), some (.int person1), some (.int othersBits9), some (.int mostBits39), some (.int mostWorth40), some (.int bits41), some (.int r45)] dX9_mostBits_86 (by decide) rfl rfl ?_
      obtain ⟨o48, e49, h50⟩ := ob h47
      suffices hJ53 : ∀ (mostBits51 : Int32) (mostWorth52 : Int32), (mostBits51, mostWorth52) = o48 → GX Γ LAY 0 0 [some (.ref (gad Γ 0)), some (.int person1), some (.int othersBits9), some (.int mostBits51), some (.int mostWorth52), some (.int bits41), some (.int r45)] [] m2 121 by
        obtain ⟨c54, e55, h56⟩ := ob e49
        have hc57 : true = c54 → GX Γ LAY 0 0 [some (.ref (gad Γ 0)), some (.int person1), some (.int othersBits9), some (.int mostBits39), some (.int mostWorth40), some (.int bits41), some (.int r45)] [] m2 114 := by
          intro q
          have h58 := ifT q.symm h56
          refine GX_iload hC dX9_mostBits_114 rfl ?_
          refine GX_istore hC [some (.ref (gad Γ 0)), some (.int person1), some (.int othersBits9), some (.int mostBits39), some (.int r45), some (.int bits41), some (.int r45)] dX9_mostBits_116 (by decide) rfl rfl ?_
          refine GX_iload hC dX9_mostBits_118 rfl ?_
          refine GX_istore_n hC [some (.ref (gad Γ 0)), some (.int person1), some (.int othersBits9), some (.int bits41), some (.int r45), some (.int bits41), some (.int r45)] dX9_mostBits_120 (by decide) rfl rfl ?_
          exact (hJ53 _ _ (oi h58))
        have hc59 : false = c54 → GX Γ LAY 0 0 [some (.ref (gad Γ 0)), some (.int person1), some (.int othersBits9), some (.int mostBits39), some (.int mostWorth40), some (.int bits41), some (.int r45)] [] m2 121 := by
          intro q
          have h60 := ifF q.symm h56
          exact (hJ53 _ _ (oi h60))
        refine GX_iload hC dX9_mostBits_88 rfl ?_
        refine GX_iload hC dX9_mostBits_90 rfl ?_
        refine GX_icmp_le_N hC 121 dX9_mostBits_92 (by decide) (fun q => ?_) (fun q => ?_)
        · skip
          have h61 := ifP q e55
          refine GX_iload hC dX9_mostBits_95 rfl ?_
          refine GX_iload_n hC dX9_mostBits_97 rfl ?_
          refine GX_iand hC dX9_mostBits_98 ?_
          refine GX_if_ne_N hC 121 dX9_mostBits_99 (by decide) (fun q => ?_) (fun q => ?_)
          · skip
            have h62 := ifP q h61
            refine GX_aload_n hC dX9_mostBits_102 rfl ?_
            refine GX_getR hC fkX9_10 ol_0 rfl dX9_mostBits_103 ?_
            refine GX_iload hC dX9_mostBits_106 rfl ?_
            obtain ⟨b63, e64, h65⟩ := ob h62
            refine GX_callV_i (st := []) hC (C_Land_barWithin isLand_1 e64) okX2_barWithin lkX9_343 (olLand isLand_1) rfl rfl (Nat.le_of_ble_eq_true rfl) (Nat.le_of_ble_eq_true rfl) hk rfl (Nat.le_of_ble_eq_true rfl) dX9_mostBits_108 ?_
            refine GX_ifb_ne hC 121 dX9_mostBits_111 (by decide) (fun q => ?_) (fun q => ?_)
            · skip
              exact hc59 (cbnT q h65)
            · skip
              exact hc57 (cbnF q h65)
          · skip
            have h66 := ifN q h61
            exact hc59 (oi h66)
        · skip
          have h67 := ifN q e55
          exact hc59 (oi h67)
      intro mostBits51 mostWorth52 q68
      subst q68
      obtain ⟨i69, e70, h71⟩ := ob h50
      refine GX_iinc hC i69 [some (.ref (gad Γ 0)), some (.int person1), some (.int othersBits9), some (.int mostBits51), some (.int mostWorth52), some (.int i69), some (.int r45)] dX9_mostBits_121 rfl (oi e70) (by decide) rfl rfl ?_
      refine GX_goto hC 62 dX9_mostBits_124 (by decide) ?_
      exact GX.le (hI38 _ (oi h71).symm) ⟨rfl, ⟨rfl, ⟨rfl, ⟨rfl, ⟨rfl, ⟨rfl, trivial⟩⟩⟩⟩⟩⟩
    · skip
      have h72 := ifN q hx38
      exact GX.le (hJ38 _ _ (hO38 _ (oi h72).symm)) ⟨rfl, ⟨rfl, ⟨rfl, ⟨rfl, ⟨rfl, trivial⟩⟩⟩⟩⟩
  intro mostBits42 mostWorth43 q73
  subst q73
  refine GX_iload_n hC dX9_mostBits_127 rfl ?_
  exact GX_iretR hC hR dX9_mostBits_128 (oi h37)
set_option maxRecDepth 100000 in
set_option maxHeartbeats 4000000 in
theorem C_N_most {l : Launch} {person1 : Int32} {what2 : Int32} {m3 : MI} {r0 : Int32}  (hf : N_most person1 what2 m3 = some r0) : Cn l yX9_most cX9_most 4 (some .int) 5 LAY (fun ad => .ref (ad 0) :: [.int person1, .int what2]) m3 (fun _ => some (.int r0)) m3 := by
  refine Cn.of (fun ad => [some (.ref (ad 0)), some (.int person1), some (.int what2), none]) (by decide +kernel) (fun _ => rfl) (fun _ => Nat.le_of_ble_eq_true rfl) (fun Γ hl hC hR hk => ?_)
  subst hl
  replace hC : CX Γ cX9_most RX9 LAY 5 4 := hC
  dsimp only [N_most] at hf
  obtain ⟨c4, e5, h6⟩ := ob hf
  have hc7 : true = c4 → GX Γ LAY 0 0 [some (.ref (gad Γ 0)), some (.int person1), some (.int what2), none] [] m3 20 := by
    intro q
    have h8 := ifT q.symm h6
    refine GX_iconst hC (-1) dX9_most_20 rfl ?_
    exact GX_iretR hC hR dX9_most_21 (oi h8)
  have hc9 : false = c4 → GX Γ LAY 0 0 [some (.ref (gad Γ 0)), some (.int person1), some (.int what2), none] [] m3 22 := by
    intro q
    have h10 := ifF q.symm h6
    refine GX_aload_n hC dX9_most_22 rfl ?_
    refine GX_iload_n hC dX9_most_23 rfl ?_
    obtain ⟨r11, e12, h13⟩ := ob h10
    refine GX_callV_i (st := []) hC (C_N_mostBits e12) okX9_mostBits lkX9_192 ol_0 rfl rfl (Nat.le_of_ble_eq_true rfl) (Nat.le_of_ble_eq_true rfl) hk rfl (Nat.le_of_ble_eq_true rfl) dX9_most_24 ?_
    refine GX_istore_n hC [some (.ref (gad Γ 0)), some (.int person1), some (.int what2), some (.int r11)] dX9_most_27 (by decide) rfl rfl ?_
    obtain ⟨x14, e15, h16⟩ := ob h13
    suffices hJ17 : GX Γ LAY 0 0 [some (.ref (gad Γ 0)), some (.int person1), some (.int what2), some (.int r11)] [.int x14] m3 45 by
      refine GX_iload_n hC dX9_most_28 rfl ?_
      refine GX_if_ne_N hC 36 dX9_most_29 (by decide) (fun q => ?_) (fun q => ?_)
      · skip
        have h18 := ifP q e15
        refine GX_iload_n hC dX9_most_32 rfl ?_
        refine GX_goto hC 45 dX9_most_33 (by decide) ?_
        exact GX_nm (oi h18) hJ17
      · skip
        have h19 := ifN q e15
        refine GX_aload_n hC dX9_most_36 rfl ?_
        refine GX_getR hC fkX9_10 ol_0 rfl dX9_most_37 ?_
        refine GX_iload_n hC dX9_most_40 rfl ?_
        refine GX_iload_n hC dX9_most_41 rfl ?_
        obtain ⟨r20, e21, h22⟩ := ob h19
        refine GX_callV_i (st := []) hC (C_Land_worthOfBits isLand_1 e21) okX2_worthOfBits lkX9_195 (olLand isLand_1) rfl rfl (Nat.le_of_ble_eq_true rfl) (Nat.le_of_ble_eq_true rfl) hk rfl (Nat.le_of_ble_eq_true rfl) dX9_most_42 ?_
        exact GX_nm (oi h22) hJ17
    exact GX_iretR hC hR dX9_most_45 (oi h16)
  refine GX_aload_n hC dX9_most_0 rfl ?_
  refine GX_getR hC fkX9_10 ol_0 rfl dX9_most_1 ?_
  refine GX_iload_n hC dX9_most_4 rfl ?_
  obtain ⟨b23, e24, h25⟩ := ob e5
  refine GX_callV_i (st := []) hC (C_Land_isPerson isLand_1 e24) okX2_isPerson lkX9_120 (olLand isLand_1) rfl rfl (Nat.le_of_ble_eq_true rfl) (Nat.le_of_ble_eq_true rfl) hk rfl (Nat.le_of_ble_eq_true rfl) dX9_most_5 ?_
  refine GX_ifb_eq hC 20 dX9_most_8 (by decide) (fun q => ?_) (fun q => ?_)
  · skip
    have h26 := ifT q h25
    refine GX_iload_n hC dX9_most_11 rfl ?_
    refine GX_if_lt_P hC 20 dX9_most_12 (by decide) (fun q => ?_) (fun q => ?_)
    · skip
      have h27 := ifP q h26
      exact hc7 (oi h27)
    · skip
      have h28 := ifN q h26
      refine GX_iload_n hC dX9_most_15 rfl ?_
      refine GX_iconst hC 1 dX9_most_16 rfl ?_
      refine GX_icmp_le_N hC 22 dX9_most_17 (by decide) (fun q => ?_) (fun q => ?_)
      · skip
        exact hc7 (cdT q h28)
      · skip
        exact hc9 (cdF q h28)
  · skip
    have h29 := ifF q h25
    exact hc7 (oi h29)
set_option maxRecDepth 100000 in
set_option maxHeartbeats 4000000 in
theorem C_N_best {l : Launch} {field1 : Int32} {m2 : MI} {r0 : Int32} {mr : MI}  (hf : N_best field1 m2 = some (r0, mr)) : Cn l yX9_best cX9_best 2 (some .int) 25 LAY (fun ad => .ref (ad 0) :: [.int field1]) m2 (fun _ => some (.int r0)) mr := by
  refine Cn.of (fun ad => [some (.ref (ad 0)), some (.int field1)]) (by decide +kernel) (fun _ => rfl) (fun _ => Nat.le_of_ble_eq_true rfl) (fun Γ hl hC hR hk => ?_)
  subst hl
  replace hC : CX Γ cX9_best RX9 LAY 25 2 := hC
  dsimp only [N_best] at hf
  obtain ⟨c3, e4, h5⟩ := ob hf
  have hc6 : true = c3 → GX Γ LAY 0 0 [some (.ref (gad Γ 0)), some (.int field1)] [] m2 16 := by
    intro q
    have h7 := ifT q.symm h5
    refine GX_iconst hC (-1) dX9_best_16 rfl ?_
    exact GX_iretW hC hR dX9_best_17 (oi h7)
  have hc8 : false = c3 → GX Γ LAY 0 0 [some (.ref (gad Γ 0)), some (.int field1)] [] m2 18 := by
    intro q
    have h9 := ifF q.symm h5
    refine GX_aload_n hC dX9_best_18 rfl ?_
    refine GX_getR hC fkX9_42 ol_0 rfl dX9_best_19 ?_
    refine GX_aload_n hC dX9_best_22 rfl ?_
    refine GX_getR hC fkX9_10 ol_0 rfl dX9_best_23 ?_
    refine GX_iconst hC (bI false) dX9_best_26 rfl ?_
    obtain ⟨m10, e11, h12⟩ := ob h9
    refine GX_callV_v (st := []) hC (C_Sharing_search isLand_1 e11) okX7_search lkX9_198 ol_24 rfl rfl (Nat.le_of_ble_eq_true rfl) (Nat.le_of_ble_eq_true rfl) hk rfl (Nat.le_of_ble_eq_true rfl) dX9_best_27 ?_
    obtain ⟨x13, e14, h15⟩ := ob h12
    suffices hJ16 : GX Γ LAY 0 0 [some (.ref (gad Γ 0)), some (.int field1)] [.int x13] m10 56 by
      refine GX_iload_n hC dX9_best_30 rfl ?_
      refine GX_iconst hC (-1) dX9_best_31 rfl ?_
      refine GX_icmp_ne_N hC 45 dX9_best_32 (by decide) (fun q => ?_) (fun q => ?_)
      · skip
        have h17 := ifP q e14
        refine GX_aload_n hC dX9_best_35 rfl ?_
        refine GX_getR hC fkX9_42 ol_0 rfl dX9_best_36 ?_
        refine GX_getI hC fkX9_202 ol_24 rfl dX9_best_39 ?_
        refine GX_goto hC 56 dX9_best_42 (by decide) ?_
        exact GX_nm (oi h17) hJ16
      · skip
        have h18 := ifN q e14
        refine GX_aload_n hC dX9_best_45 rfl ?_
        refine GX_getR hC fkX9_42 ol_0 rfl dX9_best_46 ?_
        refine GX_iload_n hC dX9_best_49 rfl ?_
        obtain ⟨r19, e20, h21⟩ := ob h18
        refine GX_callV_i (st := []) hC (C_Sharing_ownerFound e20) okX7_ownerFound lkX9_205 ol_24 rfl rfl (Nat.le_of_ble_eq_true rfl) (Nat.le_of_ble_eq_true rfl) hk rfl (Nat.le_of_ble_eq_true rfl) dX9_best_50 ?_
        obtain ⟨r22, e23, h24⟩ := ob h21
        refine GX_callS_i (st := []) hC (C_N_orNone e23) okX9_orNone lkX9_106 rfl (Nat.le_of_ble_eq_true rfl) (Nat.le_of_ble_eq_true rfl) hk rfl (Nat.le_of_ble_eq_true rfl) dX9_best_53 ?_
        exact GX_nm (oi h24) hJ16
    exact GX_iretW hC hR dX9_best_56 (oi h15)
  refine GX_iload_n hC dX9_best_0 rfl ?_
  refine GX_iconst hC (-1) dX9_best_1 rfl ?_
  refine GX_icmp_eq_N hC 18 dX9_best_2 (by decide) (fun q => ?_) (fun q => ?_)
  · skip
    have h25 := ifP q e4
    refine GX_aload_n hC dX9_best_5 rfl ?_
    refine GX_getR hC fkX9_10 ol_0 rfl dX9_best_6 ?_
    refine GX_iload_n hC dX9_best_9 rfl ?_
    obtain ⟨b26, e27, h28⟩ := ob h25
    refine GX_callV_i (st := []) hC (C_Land_isField isLand_1 e27) okX2_isField lkX9_95 (olLand isLand_1) rfl rfl (Nat.le_of_ble_eq_true rfl) (Nat.le_of_ble_eq_true rfl) hk rfl (Nat.le_of_ble_eq_true rfl) dX9_best_10 ?_
    refine GX_ifb_ne hC 18 dX9_best_13 (by decide) (fun q => ?_) (fun q => ?_)
    · skip
      exact hc8 (cbnT q h28)
    · skip
      exact hc6 (cbnF q h28)
  · skip
    have h29 := ifN q e4
    exact hc8 (oi h29)
set_option maxRecDepth 100000 in
set_option maxHeartbeats 4000000 in
theorem C_N_withMusts {l : Launch} {field1 : Int32} {m2 : MI} {r0 : Int32} {mr : MI}  (hf : N_withMusts field1 m2 = some (r0, mr)) : Cn l yX9_withMusts cX9_withMusts 2 (some .int) 25 LAY (fun ad => .ref (ad 0) :: [.int field1]) m2 (fun _ => some (.int r0)) mr := by
  refine Cn.of (fun ad => [some (.ref (ad 0)), some (.int field1)]) (by decide +kernel) (fun _ => rfl) (fun _ => Nat.le_of_ble_eq_true rfl) (fun Γ hl hC hR hk => ?_)
  subst hl
  replace hC : CX Γ cX9_withMusts RX9 LAY 25 2 := hC
  dsimp only [N_withMusts] at hf
  obtain ⟨c3, e4, h5⟩ := ob hf
  have hc6 : true = c3 → GX Γ LAY 0 0 [some (.ref (gad Γ 0)), some (.int field1)] [] m2 16 := by
    intro q
    have h7 := ifT q.symm h5
    refine GX_iconst hC (-1) dX9_withMusts_16 rfl ?_
    exact GX_iretW hC hR dX9_withMusts_17 (oi h7)
  have hc8 : false = c3 → GX Γ LAY 0 0 [some (.ref (gad Γ 0)), some (.int field1)] [] m2 18 := by
    intro q
    have h9 := ifF q.symm h5
    refine GX_aload_n hC dX9_withMusts_18 rfl ?_
    refine GX_getR hC fkX9_10 ol_0 rfl dX9_withMusts_19 ?_
    obtain ⟨b10, e11, h12⟩ := ob h9
    refine GX_callV_i (st := []) hC (C_Land_isLawful isLand_1 e11) okX2_isLawful lkX9_154 (olLand isLand_1) rfl rfl (Nat.le_of_ble_eq_true rfl) (Nat.le_of_ble_eq_true rfl) hk rfl (Nat.le_of_ble_eq_true rfl) dX9_withMusts_22 ?_
    refine GX_ifb_ne hC 31 dX9_withMusts_25 (by decide) (fun q => ?_) (fun q => ?_)
    · skip
      have h13 := ifT q h12
      refine GX_aload_n hC dX9_withMusts_31 rfl ?_
      refine GX_getR hC fkX9_42 ol_0 rfl dX9_withMusts_32 ?_
      refine GX_aload_n hC dX9_withMusts_35 rfl ?_
      refine GX_getR hC fkX9_10 ol_0 rfl dX9_withMusts_36 ?_
      refine GX_iconst hC (bI true) dX9_withMusts_39 rfl ?_
      obtain ⟨m14, e15, h16⟩ := ob h13
      refine GX_callV_v (st := []) hC (C_Sharing_search isLand_1 e15) okX7_search lkX9_198 ol_24 rfl rfl (Nat.le_of_ble_eq_true rfl) (Nat.le_of_ble_eq_true rfl) hk rfl (Nat.le_of_ble_eq_true rfl) dX9_withMusts_40 ?_
      obtain ⟨x17, e18, h19⟩ := ob h16
      suffices hJ20 : GX Γ LAY 0 0 [some (.ref (gad Γ 0)), some (.int field1)] [.int x17] m14 69 by
        refine GX_iload_n hC dX9_withMusts_43 rfl ?_
        refine GX_iconst hC (-1) dX9_withMusts_44 rfl ?_
        refine GX_icmp_ne_N hC 58 dX9_withMusts_45 (by decide) (fun q => ?_) (fun q => ?_)
        · skip
          have h21 := ifP q e18
          refine GX_aload_n hC dX9_withMusts_48 rfl ?_
          refine GX_getR hC fkX9_42 ol_0 rfl dX9_withMusts_49 ?_
          refine GX_getI hC fkX9_202 ol_24 rfl dX9_withMusts_52 ?_
          refine GX_goto hC 69 dX9_withMusts_55 (by decide) ?_
          exact GX_nm (oi h21) hJ20
        · skip
          have h22 := ifN q e18
          refine GX_aload_n hC dX9_withMusts_58 rfl ?_
          refine GX_getR hC fkX9_42 ol_0 rfl dX9_withMusts_59 ?_
          refine GX_iload_n hC dX9_withMusts_62 rfl ?_
          obtain ⟨r23, e24, h25⟩ := ob h22
          refine GX_callV_i (st := []) hC (C_Sharing_ownerFound e24) okX7_ownerFound lkX9_205 ol_24 rfl rfl (Nat.le_of_ble_eq_true rfl) (Nat.le_of_ble_eq_true rfl) hk rfl (Nat.le_of_ble_eq_true rfl) dX9_withMusts_63 ?_
          obtain ⟨r26, e27, h28⟩ := ob h25
          refine GX_callS_i (st := []) hC (C_N_orNone e27) okX9_orNone lkX9_106 rfl (Nat.le_of_ble_eq_true rfl) (Nat.le_of_ble_eq_true rfl) hk rfl (Nat.le_of_ble_eq_true rfl) dX9_withMusts_66 ?_
          exact GX_nm (oi h28) hJ20
      exact GX_iretW hC hR dX9_withMusts_69 (oi h19)
    · skip
      have h29 := ifF q h12
      refine GX_bipush hC (-4) dX9_withMusts_28 rfl ?_
      exact GX_iretW hC hR dX9_withMusts_30 (oi h29)
  refine GX_iload_n hC dX9_withMusts_0 rfl ?_
  refine GX_iconst hC (-1) dX9_withMusts_1 rfl ?_
  refine GX_icmp_eq_N hC 18 dX9_withMusts_2 (by decide) (fun q => ?_) (fun q => ?_)
  · skip
    have h30 := ifP q e4
    refine GX_aload_n hC dX9_withMusts_5 rfl ?_
    refine GX_getR hC fkX9_10 ol_0 rfl dX9_withMusts_6 ?_
    refine GX_iload_n hC dX9_withMusts_9 rfl ?_
    obtain ⟨b31, e32, h33⟩ := ob h30
    refine GX_callV_i (st := []) hC (C_Land_isField isLand_1 e32) okX2_isField lkX9_95 (olLand isLand_1) rfl rfl (Nat.le_of_ble_eq_true rfl) (Nat.le_of_ble_eq_true rfl) hk rfl (Nat.le_of_ble_eq_true rfl) dX9_withMusts_10 ?_
    refine GX_ifb_ne hC 18 dX9_withMusts_13 (by decide) (fun q => ?_) (fun q => ?_)
    · skip
      exact hc8 (cbnT q h33)
    · skip
      exact hc6 (cbnF q h33)
  · skip
    have h34 := ifN q e4
    exact hc8 (oi h34)
set_option maxRecDepth 100000 in
set_option maxHeartbeats 4000000 in
theorem C_N_chain {l : Launch} {d1 : Int32} {m2 : MI} {r0 : Int32} {mr : MI}  (hf : N_chain d1 m2 = some (r0, mr)) : Cn l yX9_chain cX9_chain 5 (some .int) 6 LAY (fun ad => .ref (ad 0) :: [.int d1]) m2 (fun _ => some (.int r0)) mr := by
  refine Cn.of (fun ad => [some (.ref (ad 0)), some (.int d1), none, none, none]) (by decide +kernel) (fun _ => rfl) (fun _ => Nat.le_of_ble_eq_true rfl) (fun Γ hl hC hR hk => ?_)
  subst hl
  replace hC : CX Γ cX9_chain RX9 LAY 6 5 := hC
  dsimp only [N_chain] at hf
  refine GX_aload_n hC dX9_chain_0 rfl ?_
  refine GX_iload_n hC dX9_chain_1 rfl ?_
  rcases hs3 : N_shelfAt d1 with _ | s4
  · skip
    have h5 := onNn hs3 hf
    refine GX_callV_n (st := []) hC (C_N_shelfAt_n hs3) okX9_shelfAt lkX9_75 ol_0 rfl rfl (Nat.le_of_ble_eq_true rfl) (Nat.le_of_ble_eq_true rfl) hk rfl (Nat.le_of_ble_eq_true rfl) dX9_chain_2 ?_
    refine GX_astore_nN hC [some (.ref (gad Γ 0)), some (.int d1), some (.null), none, none] dX9_chain_5 (by decide) rfl rfl ?_
    refine GX_aload_nN hC dX9_chain_6 rfl ?_
    refine GX_ifnonnullN hC dX9_chain_7 ?_
    refine GX_iconst hC (-1) dX9_chain_10 rfl ?_
    exact GX_iretW hC hR dX9_chain_11 (oi h5)
  · skip
    have h6 := onNs hs3 hf
    refine GX_callV_r (st := []) hC (C_N_shelfAt_s hs3) okX9_shelfAt lkX9_75 ol_0 rfl rfl (Nat.le_of_ble_eq_true rfl) (Nat.le_of_ble_eq_true rfl) hk rfl (Nat.le_of_ble_eq_true rfl) dX9_chain_2 ?_
    have hsh7 := isShelf_at hs3
    refine GX_astore_n hC [some (.ref (gad Γ 0)), some (.int d1), some (.ref (gad Γ s4)), none, none] dX9_chain_5 (by decide) rfl rfl ?_
    refine GX_aload_n hC dX9_chain_6 rfl ?_
    refine GX_ifnonnull hC 12 dX9_chain_7 (by decide) ?_
    refine GX_aload_n hC dX9_chain_12 rfl ?_
    obtain ⟨r8, e9, h10⟩ := ob h6
    refine GX_callV_i (st := []) hC (C_Shelf_bytesRefusal hsh7 e9) okX8_bytesRefusal lkX9_79 (olShelf hsh7) rfl rfl (Nat.le_of_ble_eq_true rfl) (Nat.le_of_ble_eq_true rfl) hk rfl (Nat.le_of_ble_eq_true rfl) dX9_chain_13 ?_
    refine GX_istore_n hC [some (.ref (gad Γ 0)), some (.int d1), some (.ref (gad Γ s4)), some (.int r8), none] dX9_chain_16 (by decide) rfl rfl ?_
    refine GX_iload_n hC dX9_chain_17 rfl ?_
    refine GX_if_eq_N hC 23 dX9_chain_18 (by decide) (fun q => ?_) (fun q => ?_)
    · skip
      have h11 := ifP q h10
      refine GX_iload_n hC dX9_chain_21 rfl ?_
      exact GX_iretW hC hR dX9_chain_22 (oi h11)
    · skip
      have h12 := ifN q h10
      refine GX_aload_n hC dX9_chain_23 rfl ?_
      refine GX_getI hC fkX9_179 (olShelf hsh7) rfl dX9_chain_24 ?_
      refine GX_aload_n hC dX9_chain_27 rfl ?_
      refine GX_getR hC fkX9_10 ol_0 rfl dX9_chain_28 ?_
      refine GX_getI hC fkX9_175 (olLand isLand_1) rfl dX9_chain_31 ?_
      refine GX_icmp_eq_N hC 40 dX9_chain_34 (by decide) (fun q => ?_) (fun q => ?_)
      · skip
        have h13 := ifP q h12
        refine GX_bipush hC (-13) dX9_chain_37 rfl ?_
        exact GX_iretW hC hR dX9_chain_39 (oi h13)
      · skip
        have h14 := ifN q h12
        refine GX_aload_n hC dX9_chain_40 rfl ?_
        refine GX_getR hC fkX9_16 ol_0 rfl dX9_chain_41 ?_
        refine GX_aload_n hC dX9_chain_44 rfl ?_
        refine GX_getR hC fkX9_10 ol_0 rfl dX9_chain_45 ?_
        obtain ⟨m15, e16, h17⟩ := ob h14
        refine GX_callV_v (st := []) hC (C_Land_copyFrom isLand_8 isLand_1 e16) okX2_copyFrom lkX9_87 (olLand isLand_8) rfl rfl (Nat.le_of_ble_eq_true rfl) (Nat.le_of_ble_eq_true rfl) hk rfl (Nat.le_of_ble_eq_true rfl) dX9_chain_48 ?_
        refine GX_iconst hC 0 dX9_chain_51 rfl ?_
        refine GX_istore hC [some (.ref (gad Γ 0)), some (.int d1), some (.ref (gad Γ s4)), some (.int r8), some (.int 0)] dX9_chain_52 (by decide) rfl rfl ?_
        obtain ⟨o18, e19, h20⟩ := ob h17
        have hR21 : ∀ res : Int32 × MI, Sum.inr res = o18 → res = (r0, mr) := by
          intro res q
          subst q
          have h20 := seR h20
          exact (oi h20)
        suffices hJ21 : ∀ (m24 : MI), Sum.inl m24 = o18 → GX Γ LAY 0 0 [some (.ref (gad Γ 0)), some (.int d1), some (.ref (gad Γ s4)), some (.int r8), none] [] m24 93 by
          refine lp_walk (P := fun s => GX Γ LAY 0 0 [some (.ref (gad Γ 0)), some (.int d1), some (.ref (gad Γ s4)), some (.int r8), some (.int s.1)] [] s.2 54) (fun s x hx21 hI21 hO21 => ?_) _ _ e19
          obtain ⟨f22, m23⟩ := s
          show GX Γ LAY 0 0 [some (.ref (gad Γ 0)), some (.int d1), some (.ref (gad Γ s4)), some (.int r8), some (.int f22)] [] m23 54
          dsimp only [N_chain_s1] at hx21
          refine GX_iload hC dX9_chain_54 rfl ?_
          refine GX_aload_n hC dX9_chain_56 rfl ?_
          refine GX_getR hC fkX9_10 ol_0 rfl dX9_chain_57 ?_
          refine GX_getI hC fkX9_175 (olLand isLand_1) rfl dX9_chain_60 ?_
          refine GX_icmp_ge_N hC 93 dX9_chain_63 (by decide) (fun q => ?_) (fun q => ?_)
          · skip
            have h25 := ifP q hx21
            refine GX_aload_n hC dX9_chain_66 rfl ?_
            refine GX_getR hC fkX9_16 ol_0 rfl dX9_chain_67 ?_
            refine GX_aload_n hC dX9_chain_70 rfl ?_
            refine GX_iload hC dX9_chain_71 rfl ?_
            obtain ⟨r26, e27, h28⟩ := ob h25
            refine GX_callV_i (st := [.ref (gad Γ 8)]) hC (C_Shelf_at hsh7 e27) okX8_at lkX9_182 (olShelf hsh7) rfl rfl (Nat.le_of_ble_eq_true rfl) (Nat.le_of_ble_eq_true rfl) hk rfl (Nat.le_of_ble_eq_true rfl) dX9_chain_73 ?_
            refine GX_iload hC dX9_chain_76 rfl ?_
            obtain ⟨⟨b29, m30⟩, e31, h32⟩ := ob h28
            refine GX_callV_i (st := []) hC (C_Land_give isLand_8 e31) okX2_give lkX9_151 (olLand isLand_8) rfl rfl (Nat.le_of_ble_eq_true rfl) (Nat.le_of_ble_eq_true rfl) hk rfl (Nat.le_of_ble_eq_true rfl) dX9_chain_78 ?_
            refine GX_ifb_ne hC 87 dX9_chain_81 (by decide) (fun q => ?_) (fun q => ?_)
            · skip
              have h33 := ifT q h32
              obtain ⟨i34, e35, h36⟩ := ob h33
              refine GX_iinc hC i34 [some (.ref (gad Γ 0)), some (.int d1), some (.ref (gad Γ s4)), some (.int r8), some (.int i34)] dX9_chain_87 rfl (oi e35) (by decide) rfl rfl ?_
              refine GX_goto hC 54 dX9_chain_90 (by decide) ?_
              exact hI21 _ (oi h36).symm
            · skip
              have h37 := ifF q h32
              refine GX_bipush hC (-13) dX9_chain_84 rfl ?_
              exact GX_iretW hC hR dX9_chain_86 (hR21 _ (hO21 _ (oi h37).symm))
          · skip
            have h38 := ifN q hx21
            exact GX.le (hJ21 _ (hO21 _ (oi h38).symm)) ⟨rfl, ⟨rfl, ⟨rfl, ⟨rfl, trivial⟩⟩⟩⟩
        intro m24 q39
        subst q39
        have h20 := seL h20
        refine GX_aload_n hC dX9_chain_93 rfl ?_
        refine GX_getR hC fkX9_56 ol_0 rfl dX9_chain_94 ?_
        refine GX_aload_n hC dX9_chain_97 rfl ?_
        refine GX_getR hC fkX9_10 ol_0 rfl dX9_chain_98 ?_
        refine GX_aload_n hC dX9_chain_101 rfl ?_
        refine GX_getR hC fkX9_16 ol_0 rfl dX9_chain_102 ?_
        obtain ⟨⟨r40, m41⟩, e42, h43⟩ := ob h20
        refine GX_callV_i (st := []) hC (C_Changes_fewestBetween isLand_1 isLand_8 e42) okX0_fewestBetween lkX9_208 ol_30 rfl rfl (Nat.le_of_ble_eq_true rfl) (Nat.le_of_ble_eq_true rfl) hk rfl (Nat.le_of_ble_eq_true rfl) dX9_chain_105 ?_
        exact GX_iretW hC hR dX9_chain_108 (oi h43)
set_option maxRecDepth 100000 in
set_option maxHeartbeats 4000000 in
theorem C_N_flood {l : Launch} {a1 : Int32} {b2 : Int32} {m3 : MI} {r0 : Int32} {mr : MI}  (hf : N_flood a1 b2 m3 = some (r0, mr)) : Cn l yX9_flood cX9_flood 7 (some .int) 3 LAY (fun ad => .ref (ad 0) :: [.int a1, .int b2]) m3 (fun _ => some (.int r0)) mr := by
  refine Cn.of (fun ad => [some (.ref (ad 0)), some (.int a1), some (.int b2), none, none, none, none]) (by decide +kernel) (fun _ => rfl) (fun _ => Nat.le_of_ble_eq_true rfl) (fun Γ hl hC hR hk => ?_)
  subst hl
  replace hC : CX Γ cX9_flood RX9 LAY 3 7 := hC
  dsimp only [N_flood] at hf
  refine GX_aload_n hC dX9_flood_0 rfl ?_
  refine GX_getR hC fkX9_10 ol_0 rfl dX9_flood_1 ?_
  refine GX_iload_n hC dX9_flood_4 rfl ?_
  refine GX_iload_n hC dX9_flood_5 rfl ?_
  obtain ⟨b4, e5, h6⟩ := ob hf
  refine GX_callV_i (st := []) hC (C_Land_areTwo isLand_1 e5) okX2_areTwo lkX9_112 (olLand isLand_1) rfl rfl (Nat.le_of_ble_eq_true rfl) (Nat.le_of_ble_eq_true rfl) hk rfl (Nat.le_of_ble_eq_true rfl) dX9_flood_6 ?_
  refine GX_ifb_ne hC 14 dX9_flood_9 (by decide) (fun q => ?_) (fun q => ?_)
  · skip
    have h7 := ifT q h6
    refine GX_aload_n hC dX9_flood_14 rfl ?_
    refine GX_getR hC fkX9_16 ol_0 rfl dX9_flood_15 ?_
    refine GX_aload_n hC dX9_flood_18 rfl ?_
    refine GX_getR hC fkX9_10 ol_0 rfl dX9_flood_19 ?_
    obtain ⟨m8, e9, h10⟩ := ob h7
    refine GX_callV_v (st := []) hC (C_Land_copyFrom isLand_8 isLand_1 e9) okX2_copyFrom lkX9_87 (olLand isLand_8) rfl rfl (Nat.le_of_ble_eq_true rfl) (Nat.le_of_ble_eq_true rfl) hk rfl (Nat.le_of_ble_eq_true rfl) dX9_flood_22 ?_
    refine GX_aload_n hC dX9_flood_25 rfl ?_
    refine GX_getR hC fkX9_16 ol_0 rfl dX9_flood_26 ?_
    refine GX_iload_n hC dX9_flood_29 rfl ?_
    refine GX_iload_n hC dX9_flood_30 rfl ?_
    refine GX_iconst hC 1 dX9_flood_31 rfl ?_
    obtain ⟨m11, e12, h13⟩ := ob h10
    refine GX_callV_v (st := []) hC (C_Land_setTouch isLand_8 e12) okX2_setTouch lkX9_212 (olLand isLand_8) rfl rfl (Nat.le_of_ble_eq_true rfl) (Nat.le_of_ble_eq_true rfl) hk rfl (Nat.le_of_ble_eq_true rfl) dX9_flood_32 ?_
    refine GX_iconst hC 0 dX9_flood_35 rfl ?_
    refine GX_istore_n hC [some (.ref (gad Γ 0)), some (.int a1), some (.int b2), some (.int 0), none, none, none] dX9_flood_36 (by decide) rfl rfl ?_
    refine GX_ldc hC 2147483647 kcX9_216 dX9_flood_37 ?_
    refine GX_istore hC [some (.ref (gad Γ 0)), some (.int a1), some (.int b2), some (.int 0), some (.int 2147483647), none, none] dX9_flood_39 (by decide) rfl rfl ?_
    refine GX_iconst hC 0 dX9_flood_41 rfl ?_
    refine GX_istore hC [some (.ref (gad Γ 0)), some (.int a1), some (.int b2), some (.int 0), some (.int 2147483647), some (.int 0), none] dX9_flood_42 (by decide) rfl rfl ?_
    obtain ⟨o14, e15, h16⟩ := ob h13
    suffices hJ17 : ∀ (leastBits21 : Int32) (leastLoss22 : Int32), (leastBits21, leastLoss22) = o14 → GX Γ LAY 0 0 [some (.ref (gad Γ 0)), some (.int a1), some (.int b2), some (.int leastBits21), some (.int leastLoss22), none, none] [] m11 103 by
      refine lp_walk (P := fun s => GX Γ LAY 0 0 [some (.ref (gad Γ 0)), some (.int a1), some (.int b2), some (.int s.1), some (.int s.2.1), some (.int s.2.2), none] [] m11 44) (fun s x hx17 hI17 hO17 => ?_) _ _ e15
      obtain ⟨leastBits18, leastLoss19, bits20⟩ := s
      show GX Γ LAY 0 0 [some (.ref (gad Γ 0)), some (.int a1), some (.int b2), some (.int leastBits18), some (.int leastLoss19), some (.int bits20), none] [] m11 44
      dsimp only [N_flood_s1] at hx17
      refine GX_iload hC dX9_flood_44 rfl ?_
      refine GX_iconst hC 1 dX9_flood_46 rfl ?_
      refine GX_aload_n hC dX9_flood_47 rfl ?_
      refine GX_getR hC fkX9_16 ol_0 rfl dX9_flood_48 ?_
      refine GX_getI hC fkX9_175 (olLand isLand_8) rfl dX9_flood_51 ?_
      refine GX_ishl hC dX9_flood_54 ?_
      refine GX_icmp_ge_N hC 103 dX9_flood_55 (by decide) (fun q => ?_) (fun q => ?_)
      · skip
        have h23 := ifP q hx17
        refine GX_aload_n hC dX9_flood_58 rfl ?_
        refine GX_getR hC fkX9_16 ol_0 rfl dX9_flood_59 ?_
        refine GX_iload hC dX9_flood_62 rfl ?_
        obtain ⟨r24, e25, h26⟩ := ob h23
        refine GX_callV_i (st := []) hC (C_Land_worthToOwners isLand_8 e25) okX2_worthToOwners lkX9_217 (olLand isLand_8) rfl rfl (Nat.le_of_ble_eq_true rfl) (Nat.le_of_ble_eq_true rfl) hk rfl (Nat.le_of_ble_eq_true rfl) dX9_flood_64 ?_
        refine GX_istore hC [some (.ref (gad Γ 0)), some (.int a1), some (.int b2), some (.int leastBits18), some (.int leastLoss19), some (.int bits20), some (.int r24)] dX9_flood_67 (by decide) rfl rfl ?_
        obtain ⟨o27, e28, h29⟩ := ob h26
        suffices hJ32 : ∀ (leastBits30 : Int32) (leastLoss31 : Int32), (leastBits30, leastLoss31) = o27 → GX Γ LAY 0 0 [some (.ref (gad Γ 0)), some (.int a1), some (.int b2), some (.int leastBits30), some (.int leastLoss31), some (.int bits20), some (.int r24)] [] m11 97 by
          obtain ⟨c33, e34, h35⟩ := ob e28
          have hc36 : true = c33 → GX Γ LAY 0 0 [some (.ref (gad Γ 0)), some (.int a1), some (.int b2), some (.int leastBits18), some (.int leastLoss19), some (.int bits20), some (.int r24)] [] m11 90 := by
            intro q
            have h37 := ifT q.symm h35
            refine GX_iload hC dX9_flood_90 rfl ?_
            refine GX_istore hC [some (.ref (gad Γ 0)), some (.int a1), some (.int b2), some (.int leastBits18), some (.int r24), some (.int bits20), some (.int r24)] dX9_flood_92 (by decide) rfl rfl ?_
            refine GX_iload hC dX9_flood_94 rfl ?_
            refine GX_istore_n hC [some (.ref (gad Γ 0)), some (.int a1), some (.int b2), some (.int bits20), some (.int r24), some (.int bits20), some (.int r24)] dX9_flood_96 (by decide) rfl rfl ?_
            exact (hJ32 _ _ (oi h37))
          have hc38 : false = c33 → GX Γ LAY 0 0 [some (.ref (gad Γ 0)), some (.int a1), some (.int b2), some (.int leastBits18), some (.int leastLoss19), some (.int bits20), some (.int r24)] [] m11 97 := by
            intro q
            have h39 := ifF q.symm h35
            exact (hJ32 _ _ (oi h39))
          refine GX_iload hC dX9_flood_69 rfl ?_
          refine GX_iload hC dX9_flood_71 rfl ?_
          refine GX_icmp_ge_N hC 97 dX9_flood_73 (by decide) (fun q => ?_) (fun q => ?_)
          · skip
            have h40 := ifP q e34
            refine GX_aload_n hC dX9_flood_76 rfl ?_
            refine GX_getR hC fkX9_16 ol_0 rfl dX9_flood_77 ?_
            refine GX_iload hC dX9_flood_80 rfl ?_
            obtain ⟨r41, e42, h43⟩ := ob h40
            refine GX_callV_i (st := []) hC (C_Land_firstOffence isLand_8 e42) okX2_firstOffence lkX9_158 (olLand isLand_8) rfl rfl (Nat.le_of_ble_eq_true rfl) (Nat.le_of_ble_eq_true rfl) hk rfl (Nat.le_of_ble_eq_true rfl) dX9_flood_82 ?_
            refine GX_bipush hC (-4) dX9_flood_85 rfl ?_
            refine GX_icmp_ne_N hC 97 dX9_flood_87 (by decide) (fun q => ?_) (fun q => ?_)
            · skip
              exact hc36 (cdT q h43)
            · skip
              exact hc38 (cdF q h43)
          · skip
            have h44 := ifN q e34
            exact hc38 (oi h44)
        intro leastBits30 leastLoss31 q45
        subst q45
        obtain ⟨i46, e47, h48⟩ := ob h29
        refine GX_iinc hC i46 [some (.ref (gad Γ 0)), some (.int a1), some (.int b2), some (.int leastBits30), some (.int leastLoss31), some (.int i46), some (.int r24)] dX9_flood_97 rfl (oi e47) (by decide) rfl rfl ?_
        refine GX_goto hC 44 dX9_flood_100 (by decide) ?_
        exact GX.le (hI17 _ (oi h48).symm) ⟨rfl, ⟨rfl, ⟨rfl, ⟨rfl, ⟨rfl, ⟨rfl, trivial⟩⟩⟩⟩⟩⟩
      · skip
        have h49 := ifN q hx17
        exact GX.le (hJ17 _ _ (hO17 _ (oi h49).symm)) ⟨rfl, ⟨rfl, ⟨rfl, ⟨rfl, ⟨rfl, trivial⟩⟩⟩⟩⟩
    intro leastBits21 leastLoss22 q50
    subst q50
    refine GX_iload_n hC dX9_flood_103 rfl ?_
    exact GX_iretW hC hR dX9_flood_104 (oi h16)
  · skip
    have h51 := ifF q h6
    refine GX_iconst hC (-1) dX9_flood_12 rfl ?_
    exact GX_iretW hC hR dX9_flood_13 (oi h51)
set_option maxRecDepth 100000 in
set_option maxHeartbeats 4000000 in
theorem C_N_worthWithLane {l : Launch} {a1 : Int32} {b2 : Int32} {m3 : MI} {r0 : Int32} {mr : MI}  (hf : N_worthWithLane a1 b2 m3 = some (r0, mr)) : Cn l yX9_worthWithLane cX9_worthWithLane 3 (some .int) 25 LAY (fun ad => .ref (ad 0) :: [.int a1, .int b2]) m3 (fun _ => some (.int r0)) mr := by
  refine Cn.of (fun ad => [some (.ref (ad 0)), some (.int a1), some (.int b2)]) (by decide +kernel) (fun _ => rfl) (fun _ => Nat.le_of_ble_eq_true rfl) (fun Γ hl hC hR hk => ?_)
  subst hl
  replace hC : CX Γ cX9_worthWithLane RX9 LAY 25 3 := hC
  dsimp only [N_worthWithLane] at hf
  refine GX_aload_n hC dX9_worthWithLane_0 rfl ?_
  refine GX_getR hC fkX9_16 ol_0 rfl dX9_worthWithLane_1 ?_
  refine GX_iload_n hC dX9_worthWithLane_4 rfl ?_
  refine GX_iload_n hC dX9_worthWithLane_5 rfl ?_
  refine GX_iconst hC 2 dX9_worthWithLane_6 rfl ?_
  obtain ⟨m4, e5, h6⟩ := ob hf
  refine GX_callV_v (st := []) hC (C_Land_setTouch isLand_8 e5) okX2_setTouch lkX9_212 (olLand isLand_8) rfl rfl (Nat.le_of_ble_eq_true rfl) (Nat.le_of_ble_eq_true rfl) hk rfl (Nat.le_of_ble_eq_true rfl) dX9_worthWithLane_7 ?_
  refine GX_aload_n hC dX9_worthWithLane_10 rfl ?_
  refine GX_getR hC fkX9_42 ol_0 rfl dX9_worthWithLane_11 ?_
  refine GX_aload_n hC dX9_worthWithLane_14 rfl ?_
  refine GX_getR hC fkX9_16 ol_0 rfl dX9_worthWithLane_15 ?_
  refine GX_iconst hC (bI false) dX9_worthWithLane_18 rfl ?_
  obtain ⟨m7, e8, h9⟩ := ob h6
  refine GX_callV_v (st := []) hC (C_Sharing_search isLand_8 e8) okX7_search lkX9_198 ol_24 rfl rfl (Nat.le_of_ble_eq_true rfl) (Nat.le_of_ble_eq_true rfl) hk rfl (Nat.le_of_ble_eq_true rfl) dX9_worthWithLane_19 ?_
  refine GX_aload_n hC dX9_worthWithLane_22 rfl ?_
  refine GX_getR hC fkX9_16 ol_0 rfl dX9_worthWithLane_23 ?_
  refine GX_iload_n hC dX9_worthWithLane_26 rfl ?_
  refine GX_iload_n hC dX9_worthWithLane_27 rfl ?_
  refine GX_iconst hC 1 dX9_worthWithLane_28 rfl ?_
  obtain ⟨m10, e11, h12⟩ := ob h9
  refine GX_callV_v (st := []) hC (C_Land_setTouch isLand_8 e11) okX2_setTouch lkX9_212 (olLand isLand_8) rfl rfl (Nat.le_of_ble_eq_true rfl) (Nat.le_of_ble_eq_true rfl) hk rfl (Nat.le_of_ble_eq_true rfl) dX9_worthWithLane_29 ?_
  refine GX_aload_n hC dX9_worthWithLane_32 rfl ?_
  refine GX_getR hC fkX9_42 ol_0 rfl dX9_worthWithLane_33 ?_
  refine GX_getI hC fkX9_202 ol_24 rfl dX9_worthWithLane_36 ?_
  exact GX_iretW hC hR dX9_worthWithLane_39 (oi h12)
set_option maxRecDepth 100000 in
set_option maxHeartbeats 4000000 in
theorem C_N_frees {l : Launch} {m1 : MI} {r0 : Int32} {mr : MI}  (hf : N_frees m1 = some (r0, mr)) : Cn l yX9_frees cX9_frees 6 (some .int) 26 LAY (fun ad => .ref (ad 0) :: []) m1 (fun _ => some (.int r0)) mr := by
  refine Cn.of (fun ad => [some (.ref (ad 0)), none, none, none, none, none]) (by decide +kernel) (fun _ => rfl) (fun _ => Nat.le_of_ble_eq_true rfl) (fun Γ hl hC hR hk => ?_)
  subst hl
  replace hC : CX Γ cX9_frees RX9 LAY 26 6 := hC
  dsimp only [N_frees] at hf
  refine GX_aload_n hC dX9_frees_0 rfl ?_
  refine GX_getR hC fkX9_16 ol_0 rfl dX9_frees_1 ?_
  refine GX_aload_n hC dX9_frees_4 rfl ?_
  refine GX_getR hC fkX9_10 ol_0 rfl dX9_frees_5 ?_
  obtain ⟨m2, e3, h4⟩ := ob hf
  refine GX_callV_v (st := []) hC (C_Land_copyFrom isLand_8 isLand_1 e3) okX2_copyFrom lkX9_87 (olLand isLand_8) rfl rfl (Nat.le_of_ble_eq_true rfl) (Nat.le_of_ble_eq_true rfl) hk rfl (Nat.le_of_ble_eq_true rfl) dX9_frees_8 ?_
  refine GX_aload_n hC dX9_frees_11 rfl ?_
  refine GX_getR hC fkX9_42 ol_0 rfl dX9_frees_12 ?_
  refine GX_aload_n hC dX9_frees_15 rfl ?_
  refine GX_getR hC fkX9_16 ol_0 rfl dX9_frees_16 ?_
  refine GX_iconst hC (bI false) dX9_frees_19 rfl ?_
  obtain ⟨m5, e6, h7⟩ := ob h4
  refine GX_callV_v (st := []) hC (C_Sharing_search isLand_8 e6) okX7_search lkX9_198 ol_24 rfl rfl (Nat.le_of_ble_eq_true rfl) (Nat.le_of_ble_eq_true rfl) hk rfl (Nat.le_of_ble_eq_true rfl) dX9_frees_20 ?_
  refine GX_aload_n hC dX9_frees_23 rfl ?_
  refine GX_getR hC fkX9_42 ol_0 rfl dX9_frees_24 ?_
  refine GX_getI hC fkX9_202 ol_24 rfl dX9_frees_27 ?_
  obtain ⟨most8, e9, h10⟩ := ob h7
  refine GX_nm (oi e9) ?_
  refine GX_istore_n hC [some (.ref (gad Γ 0)), some (.int most8), none, none, none, none] dX9_frees_30 (by decide) rfl rfl ?_
  refine GX_bipush hC (-4) dX9_frees_31 rfl ?_
  refine GX_istore_n hC [some (.ref (gad Γ 0)), some (.int most8), some (.int (-4)), none, none, none] dX9_frees_33 (by decide) rfl rfl ?_
  refine GX_iconst hC 0 dX9_frees_34 rfl ?_
  refine GX_istore_n hC [some (.ref (gad Γ 0)), some (.int most8), some (.int (-4)), some (.int 0), none, none] dX9_frees_35 (by decide) rfl rfl ?_
  obtain ⟨o11, e12, h13⟩ := ob h10
  suffices hJ14 : ∀ (most19 : Int32) (answer20 : Int32) (m21 : MI), (most19, answer20, m21) = o11 → GX Γ LAY 0 0 [some (.ref (gad Γ 0)), some (.int most19), some (.int answer20), none, none, none] [] m21 124 by
    refine lp_walk (P := fun s => GX Γ LAY 0 0 [some (.ref (gad Γ 0)), some (.int s.1), some (.int s.2.1), some (.int s.2.2.1), none, none] [] s.2.2.2 36) (fun s x hx14 hI14 hO14 => ?_) _ _ e12
    obtain ⟨most15, answer16, a17, m18⟩ := s
    show GX Γ LAY 0 0 [some (.ref (gad Γ 0)), some (.int most15), some (.int answer16), some (.int a17), none, none] [] m18 36
    dsimp only [N_frees_s1] at hx14
    refine GX_iload_n hC dX9_frees_36 rfl ?_
    refine GX_aload_n hC dX9_frees_37 rfl ?_
    refine GX_getR hC fkX9_16 ol_0 rfl dX9_frees_38 ?_
    refine GX_getI hC fkX9_175 (olLand isLand_8) rfl dX9_frees_41 ?_
    refine GX_icmp_ge_N hC 124 dX9_frees_44 (by decide) (fun q => ?_) (fun q => ?_)
    · skip
      have h22 := ifP q hx14
      refine GX_iload_n hC dX9_frees_47 rfl ?_
      refine GX_iconst hC 1 dX9_frees_48 rfl ?_
      refine GX_iadd hC dX9_frees_49 ?_
      obtain ⟨b23, e24, h25⟩ := ob h22
      refine GX_nm (oi e24) ?_
      refine GX_istore hC [some (.ref (gad Γ 0)), some (.int most15), some (.int answer16), some (.int a17), some (.int b23), none] dX9_frees_50 (by decide) rfl rfl ?_
      obtain ⟨o26, e27, h28⟩ := ob h25
      suffices hJ29 : ∀ (most34 : Int32) (answer35 : Int32) (m36 : MI), (most34, answer35, m36) = o26 → GX Γ LAY 0 0 [some (.ref (gad Γ 0)), some (.int most34), some (.int answer35), some (.int a17), none, none] [] m36 118 by
        refine lp_walk (P := fun s => GX Γ LAY 0 0 [some (.ref (gad Γ 0)), some (.int s.1), some (.int s.2.1), some (.int a17), some (.int s.2.2.1), none] [] s.2.2.2 52) (fun s x hx29 hI29 hO29 => ?_) _ _ e27
        obtain ⟨most30, answer31, b32, m33⟩ := s
        show GX Γ LAY 0 0 [some (.ref (gad Γ 0)), some (.int most30), some (.int answer31), some (.int a17), some (.int b32), none] [] m33 52
        dsimp only [N_frees_s2] at hx29
        refine GX_iload hC dX9_frees_52 rfl ?_
        refine GX_aload_n hC dX9_frees_54 rfl ?_
        refine GX_getR hC fkX9_16 ol_0 rfl dX9_frees_55 ?_
        refine GX_getI hC fkX9_175 (olLand isLand_8) rfl dX9_frees_58 ?_
        refine GX_icmp_ge_N hC 118 dX9_frees_61 (by decide) (fun q => ?_) (fun q => ?_)
        · skip
          have h37 := ifP q hx29
          obtain ⟨o38, e39, h40⟩ := ob h37
          suffices hJ44 : ∀ (most41 : Int32) (answer42 : Int32) (m43 : MI), (most41, answer42, m43) = o38 → GX Γ LAY 0 0 [some (.ref (gad Γ 0)), some (.int most41), some (.int answer42), some (.int a17), some (.int b32), none] [] m43 112 by
            refine GX_aload_n hC dX9_frees_64 rfl ?_
            refine GX_getR hC fkX9_16 ol_0 rfl dX9_frees_65 ?_
            refine GX_iload_n hC dX9_frees_68 rfl ?_
            refine GX_iload hC dX9_frees_69 rfl ?_
            obtain ⟨r45, e46, h47⟩ := ob e39
            refine GX_callV_i (st := []) hC (C_Land_touchOf isLand_8 e46) okX2_touchOf lkX9_116 (olLand isLand_8) rfl rfl (Nat.le_of_ble_eq_true rfl) (Nat.le_of_ble_eq_true rfl) hk rfl (Nat.le_of_ble_eq_true rfl) dX9_frees_71 ?_
            refine GX_iconst hC 1 dX9_frees_74 rfl ?_
            refine GX_icmp_ne_N hC 112 dX9_frees_75 (by decide) (fun q => ?_) (fun q => ?_)
            · skip
              have h48 := ifP q h47
              refine GX_aload_n hC dX9_frees_78 rfl ?_
              refine GX_iload_n hC dX9_frees_79 rfl ?_
              refine GX_iload hC dX9_frees_80 rfl ?_
              obtain ⟨⟨r49, m50⟩, e51, h52⟩ := ob h48
              refine GX_callV_i (st := []) hC (C_N_worthWithLane e51) okX9_worthWithLane lkX9_220 ol_0 rfl rfl (Nat.le_of_ble_eq_true rfl) (Nat.le_of_ble_eq_true rfl) hk rfl (Nat.le_of_ble_eq_true rfl) dX9_frees_82 ?_
              refine GX_istore hC [some (.ref (gad Γ 0)), some (.int most30), some (.int answer31), some (.int a17), some (.int b32), some (.int r49)] dX9_frees_85 (by decide) rfl rfl ?_
              obtain ⟨x53, e54, h55⟩ := ob h52
              suffices hJ56 : GX Γ LAY 0 0 [some (.ref (gad Γ 0)), some (.int most30), some (.int answer31), some (.int a17), some (.int b32), some (.int r49)] [.int x53] m50 104 by
                refine GX_iload hC dX9_frees_87 rfl ?_
                refine GX_iload_n hC dX9_frees_89 rfl ?_
                refine GX_icmp_le_N hC 103 dX9_frees_90 (by decide) (fun q => ?_) (fun q => ?_)
                · skip
                  have h57 := ifP q e54
                  refine GX_bipush hC 10 dX9_frees_93 rfl ?_
                  refine GX_iload_n hC dX9_frees_95 rfl ?_
                  refine GX_imul hC dX9_frees_96 ?_
                  refine GX_iload hC dX9_frees_97 rfl ?_
                  refine GX_iadd hC dX9_frees_99 ?_
                  refine GX_goto hC 104 dX9_frees_100 (by decide) ?_
                  exact GX_nm (oi h57) hJ56
                · skip
                  have h58 := ifN q e54
                  refine GX_iload_n hC dX9_frees_103 rfl ?_
                  exact GX_nm (oi h58) hJ56
              refine GX_istore_n hC [some (.ref (gad Γ 0)), some (.int most30), some (.int x53), some (.int a17), some (.int b32), some (.int r49)] dX9_frees_104 (by decide) rfl rfl ?_
              refine GX_iload_n hC dX9_frees_105 rfl ?_
              refine GX_iload hC dX9_frees_106 rfl ?_
              refine GX_mx hC mtX9_223 (Nat.le_of_ble_eq_true rfl) hk (Nat.le_of_ble_eq_true rfl) dX9_frees_108 ?_
              obtain ⟨most59, e60, h61⟩ := ob h55
              refine GX_nm (oi e60) ?_
              refine GX_istore_n hC [some (.ref (gad Γ 0)), some (.int most59), some (.int x53), some (.int a17), some (.int b32), some (.int r49)] dX9_frees_111 (by decide) rfl rfl ?_
              exact GX.le (hJ44 _ _ _ (oi h61)) ⟨rfl, ⟨rfl, ⟨rfl, ⟨rfl, ⟨rfl, trivial⟩⟩⟩⟩⟩
            · skip
              have h62 := ifN q h47
              exact (hJ44 _ _ _ (oi h62))
          intro most41 answer42 m43 q63
          subst q63
          obtain ⟨i64, e65, h66⟩ := ob h40
          refine GX_iinc hC i64 [some (.ref (gad Γ 0)), some (.int most41), some (.int answer42), some (.int a17), some (.int i64), none] dX9_frees_112 rfl (oi e65) (by decide) rfl rfl ?_
          refine GX_goto hC 52 dX9_frees_115 (by decide) ?_
          exact hI29 _ (oi h66).symm
        · skip
          have h67 := ifN q hx29
          exact GX.le (hJ29 _ _ _ (hO29 _ (oi h67).symm)) ⟨rfl, ⟨rfl, ⟨rfl, ⟨rfl, trivial⟩⟩⟩⟩
      intro most34 answer35 m36 q68
      subst q68
      obtain ⟨i69, e70, h71⟩ := ob h28
      refine GX_iinc hC i69 [some (.ref (gad Γ 0)), some (.int most34), some (.int answer35), some (.int i69), none, none] dX9_frees_118 rfl (oi e70) (by decide) rfl rfl ?_
      refine GX_goto hC 36 dX9_frees_121 (by decide) ?_
      exact hI14 _ (oi h71).symm
    · skip
      have h72 := ifN q hx14
      exact GX.le (hJ14 _ _ _ (hO14 _ (oi h72).symm)) ⟨rfl, ⟨rfl, ⟨rfl, trivial⟩⟩⟩
  intro most19 answer20 m21 q73
  subst q73
  refine GX_iload_n hC dX9_frees_124 rfl ?_
  exact GX_iretW hC hR dX9_frees_125 (oi h13)
set_option maxRecDepth 100000 in
set_option maxHeartbeats 4000000 in
theorem C_N_game {l : Launch} {what1 : Int32} {m2 : MI} {r0 : Int32} {mr : MI}  (hf : N_game what1 m2 = some (r0, mr)) : Cn l yX9_game cX9_game 3 (some .int) 22 LAY (fun ad => .ref (ad 0) :: [.int what1]) m2 (fun _ => some (.int r0)) mr := by
  refine Cn.of (fun ad => [some (.ref (ad 0)), some (.int what1), none]) (by decide +kernel) (fun _ => rfl) (fun _ => Nat.le_of_ble_eq_true rfl) (fun Γ hl hC hR hk => ?_)
  subst hl
  replace hC : CX Γ cX9_game RX9 LAY 22 3 := hC
  dsimp only [N_game] at hf
  obtain ⟨c3, e4, h5⟩ := ob hf
  have hc6 : true = c3 → GX Γ LAY 0 0 [some (.ref (gad Γ 0)), some (.int what1), none] [] m2 9 := by
    intro q
    have h7 := ifT q.symm h5
    refine GX_iconst hC (-1) dX9_game_9 rfl ?_
    exact GX_iretW hC hR dX9_game_10 (oi h7)
  have hc8 : false = c3 → GX Γ LAY 0 0 [some (.ref (gad Γ 0)), some (.int what1), none] [] m2 11 := by
    intro q
    have h9 := ifF q.symm h5
    refine GX_aload_n hC dX9_game_11 rfl ?_
    refine GX_getR hC fkX9_10 ol_0 rfl dX9_game_12 ?_
    refine GX_getI hC fkX9_228 (olLand isLand_1) rfl dX9_game_15 ?_
    refine GX_iconst hC 2 dX9_game_18 rfl ?_
    refine GX_icmp_ge_N hC 25 dX9_game_19 (by decide) (fun q => ?_) (fun q => ?_)
    · skip
      have h10 := ifP q h9
      refine GX_bipush hC (-3) dX9_game_22 rfl ?_
      exact GX_iretW hC hR dX9_game_24 (oi h10)
    · skip
      have h11 := ifN q h9
      refine GX_aload_n hC dX9_game_25 rfl ?_
      refine GX_getR hC fkX9_63 ol_0 rfl dX9_game_26 ?_
      refine GX_aload_n hC dX9_game_29 rfl ?_
      refine GX_getR hC fkX9_10 ol_0 rfl dX9_game_30 ?_
      obtain ⟨⟨r12, m13⟩, e14, h15⟩ := ob h11
      refine GX_callV_i (st := []) hC (C_Play_winningField isLand_1 e14) okX6_winningField lkX9_231 ol_34 rfl rfl (Nat.le_of_ble_eq_true rfl) (Nat.le_of_ble_eq_true rfl) hk rfl (Nat.le_of_ble_eq_true rfl) dX9_game_33 ?_
      refine GX_istore_n hC [some (.ref (gad Γ 0)), some (.int what1), some (.int r12)] dX9_game_36 (by decide) rfl rfl ?_
      refine GX_iload_n hC dX9_game_37 rfl ?_
      refine GX_if_ne_N hC 53 dX9_game_38 (by decide) (fun q => ?_) (fun q => ?_)
      · skip
        have h16 := ifP q h15
        obtain ⟨x17, e18, h19⟩ := ob h16
        suffices hJ20 : GX Γ LAY 0 0 [some (.ref (gad Γ 0)), some (.int what1), some (.int r12)] [.int x17] m13 52 by
          refine GX_iload_n hC dX9_game_41 rfl ?_
          refine GX_bipush hC (-4) dX9_game_42 rfl ?_
          refine GX_icmp_ne_N hC 51 dX9_game_44 (by decide) (fun q => ?_) (fun q => ?_)
          · skip
            have h21 := ifP q e18
            refine GX_iconst hC 0 dX9_game_47 rfl ?_
            refine GX_goto hC 52 dX9_game_48 (by decide) ?_
            exact GX_nm (oi h21) hJ20
          · skip
            have h22 := ifN q e18
            refine GX_iconst hC 1 dX9_game_51 rfl ?_
            exact GX_nm (oi h22) hJ20
        exact GX_iretW hC hR dX9_game_52 (oi h19)
      · skip
        have h23 := ifN q h15
        refine GX_iload_n hC dX9_game_53 rfl ?_
        exact GX_iretW hC hR dX9_game_54 (oi h23)
  refine GX_iload_n hC dX9_game_0 rfl ?_
  refine GX_if_lt_P hC 9 dX9_game_1 (by decide) (fun q => ?_) (fun q => ?_)
  · skip
    have h24 := ifP q e4
    exact hc6 (oi h24)
  · skip
    have h25 := ifN q e4
    refine GX_iload_n hC dX9_game_4 rfl ?_
    refine GX_iconst hC 1 dX9_game_5 rfl ?_
    refine GX_icmp_le_N hC 11 dX9_game_6 (by decide) (fun q => ?_) (fun q => ?_)
    · skip
      exact hc6 (cdT q h25)
    · skip
      exact hc8 (cdF q h25)
set_option maxRecDepth 100000 in
set_option maxHeartbeats 4000000 in
theorem C_N_value {l : Launch} {m1 : MI} {r0 : Int32} {mr : MI}  (hf : N_value m1 = some (r0, mr)) : Cn l yX9_value cX9_value 1 (some .int) 23 LAY (fun ad => .ref (ad 0) :: []) m1 (fun _ => some (.int r0)) mr := by
  refine Cn.of (fun ad => [some (.ref (ad 0))]) (by decide +kernel) (fun _ => rfl) (fun _ => Nat.le_of_ble_eq_true rfl) (fun Γ hl hC hR hk => ?_)
  subst hl
  replace hC : CX Γ cX9_value RX9 LAY 23 1 := hC
  dsimp only [N_value] at hf
  obtain ⟨⟨x2, m3⟩, e4, h5⟩ := ob hf
  suffices hJ6 : GX Γ LAY 0 0 [some (.ref (gad Γ 0))] [.int x2] m3 27 by
    refine GX_aload_n hC dX9_value_0 rfl ?_
    refine GX_getR hC fkX9_10 ol_0 rfl dX9_value_1 ?_
    refine GX_getI hC fkX9_228 (olLand isLand_1) rfl dX9_value_4 ?_
    refine GX_iconst hC 2 dX9_value_7 rfl ?_
    refine GX_icmp_ge_N hC 16 dX9_value_8 (by decide) (fun q => ?_) (fun q => ?_)
    · skip
      have h7 := ifP q e4
      refine GX_ldc hC (-1000000003) kcX9_234 dX9_value_11 ?_
      refine GX_goto hC 27 dX9_value_13 (by decide) ?_
      cases oi h7
      exact hJ6
    · skip
      have h9 := ifN q e4
      refine GX_aload_n hC dX9_value_16 rfl ?_
      refine GX_getR hC fkX9_63 ol_0 rfl dX9_value_17 ?_
      refine GX_aload_n hC dX9_value_20 rfl ?_
      refine GX_getR hC fkX9_10 ol_0 rfl dX9_value_21 ?_
      obtain ⟨⟨r10, m11⟩, e12, h13⟩ := ob h9
      refine GX_callV_i (st := []) hC (C_Play_lead isLand_1 e12) okX6_lead lkX9_235 ol_34 rfl rfl (Nat.le_of_ble_eq_true rfl) (Nat.le_of_ble_eq_true rfl) hk rfl (Nat.le_of_ble_eq_true rfl) dX9_value_24 ?_
      cases oi h13
      exact hJ6
  exact GX_iretW hC hR dX9_value_27 (oi h5)
set_option maxRecDepth 100000 in
set_option maxHeartbeats 4000000 in
theorem C_N_deeds {l : Launch} {d1 : Int32} {what2 : Int32} {m3 : MI} {r0 : Int32} {mr : MI}  (hf : N_deeds d1 what2 m3 = some (r0, mr)) : Cn l yX9_deeds cX9_deeds 6 (some .int) 5 LAY (fun ad => .ref (ad 0) :: [.int d1, .int what2]) m3 (fun _ => some (.int r0)) mr := by
  refine Cn.of (fun ad => [some (.ref (ad 0)), some (.int d1), some (.int what2), none, none, none]) (by decide +kernel) (fun _ => rfl) (fun _ => Nat.le_of_ble_eq_true rfl) (fun Γ hl hC hR hk => ?_)
  subst hl
  replace hC : CX Γ cX9_deeds RX9 LAY 5 6 := hC
  dsimp only [N_deeds] at hf
  refine GX_aload_n hC dX9_deeds_0 rfl ?_
  refine GX_iload_n hC dX9_deeds_1 rfl ?_
  rcases hs4 : N_shelfAt d1 with _ | s5
  · skip
    have h6 := onNn hs4 hf
    refine GX_callV_n (st := []) hC (C_N_shelfAt_n hs4) okX9_shelfAt lkX9_75 ol_0 rfl rfl (Nat.le_of_ble_eq_true rfl) (Nat.le_of_ble_eq_true rfl) hk rfl (Nat.le_of_ble_eq_true rfl) dX9_deeds_2 ?_
    refine GX_astore_nN hC [some (.ref (gad Γ 0)), some (.int d1), some (.int what2), some (.null), none, none] dX9_deeds_5 (by decide) rfl rfl ?_
    refine GX_aload_nN hC dX9_deeds_6 rfl ?_
    refine GX_ifnullN hC 19 dX9_deeds_7 (by decide) ?_
    refine GX_iconst hC (-1) dX9_deeds_19 rfl ?_
    exact GX_iretW hC hR dX9_deeds_20 (oi h6)
  · skip
    have h7 := onNs hs4 hf
    refine GX_callV_r (st := []) hC (C_N_shelfAt_s hs4) okX9_shelfAt lkX9_75 ol_0 rfl rfl (Nat.le_of_ble_eq_true rfl) (Nat.le_of_ble_eq_true rfl) hk rfl (Nat.le_of_ble_eq_true rfl) dX9_deeds_2 ?_
    have hsh8 := isShelf_at hs4
    refine GX_astore_n hC [some (.ref (gad Γ 0)), some (.int d1), some (.int what2), some (.ref (gad Γ s5)), none, none] dX9_deeds_5 (by decide) rfl rfl ?_
    obtain ⟨c9, e10, h11⟩ := ob h7
    have hc12 : true = c9 → GX Γ LAY 0 0 [some (.ref (gad Γ 0)), some (.int d1), some (.int what2), some (.ref (gad Γ s5)), none, none] [] m3 19 := by
      intro q
      have h13 := ifT q.symm h11
      refine GX_iconst hC (-1) dX9_deeds_19 rfl ?_
      exact GX_iretW hC hR dX9_deeds_20 (oi h13)
    have hc14 : false = c9 → GX Γ LAY 0 0 [some (.ref (gad Γ 0)), some (.int d1), some (.int what2), some (.ref (gad Γ s5)), none, none] [] m3 21 := by
      intro q
      have h15 := ifF q.symm h11
      refine GX_aload_n hC dX9_deeds_21 rfl ?_
      obtain ⟨r16, e17, h18⟩ := ob h15
      refine GX_callV_i (st := []) hC (C_Shelf_bytesRefusal hsh8 e17) okX8_bytesRefusal lkX9_79 (olShelf hsh8) rfl rfl (Nat.le_of_ble_eq_true rfl) (Nat.le_of_ble_eq_true rfl) hk rfl (Nat.le_of_ble_eq_true rfl) dX9_deeds_22 ?_
      refine GX_istore hC [some (.ref (gad Γ 0)), some (.int d1), some (.int what2), some (.ref (gad Γ s5)), some (.int r16), none] dX9_deeds_25 (by decide) rfl rfl ?_
      refine GX_iload hC dX9_deeds_27 rfl ?_
      refine GX_if_eq_N hC 35 dX9_deeds_29 (by decide) (fun q => ?_) (fun q => ?_)
      · skip
        have h19 := ifP q h18
        refine GX_iload hC dX9_deeds_32 rfl ?_
        exact GX_iretW hC hR dX9_deeds_34 (oi h19)
      · skip
        have h20 := ifN q h18
        refine GX_aload_n hC dX9_deeds_35 rfl ?_
        refine GX_getR hC fkX9_70 ol_0 rfl dX9_deeds_36 ?_
        refine GX_aload_n hC dX9_deeds_39 rfl ?_
        refine GX_getR hC fkX9_10 ol_0 rfl dX9_deeds_40 ?_
        refine GX_aload_n hC dX9_deeds_43 rfl ?_
        obtain ⟨⟨b21, m22⟩, e23, h24⟩ := ob h20
        refine GX_callV_i (st := []) hC (C_DeedBook_write isLand_1 hsh8 e23) okX1_write lkX9_238 ol_36 rfl rfl (Nat.le_of_ble_eq_true rfl) (Nat.le_of_ble_eq_true rfl) hk rfl (Nat.le_of_ble_eq_true rfl) dX9_deeds_44 ?_
        refine GX_ifb_ne hC 53 dX9_deeds_47 (by decide) (fun q => ?_) (fun q => ?_)
        · skip
          have h25 := ifT q h24
          refine GX_aload_n hC dX9_deeds_53 rfl ?_
          refine GX_getR hC fkX9_70 ol_0 rfl dX9_deeds_54 ?_
          obtain ⟨r26, e27, h28⟩ := ob h25
          refine GX_callV_i (st := []) hC (C_DeedBook_fewestStruck e27) okX1_fewestStruck lkX9_242 ol_36 rfl rfl (Nat.le_of_ble_eq_true rfl) (Nat.le_of_ble_eq_true rfl) hk rfl (Nat.le_of_ble_eq_true rfl) dX9_deeds_57 ?_
          refine GX_istore hC [some (.ref (gad Γ 0)), some (.int d1), some (.int what2), some (.ref (gad Γ s5)), some (.int r16), some (.int r26)] dX9_deeds_60 (by decide) rfl rfl ?_
          obtain ⟨x29, e30, h31⟩ := ob h28
          suffices hJ32 : GX Γ LAY 0 0 [some (.ref (gad Γ 0)), some (.int d1), some (.int what2), some (.ref (gad Γ s5)), some (.int r16), some (.int r26)] [.int x29] m22 76 by
            refine GX_iload_n hC dX9_deeds_62 rfl ?_
            refine GX_if_ne_N hC 71 dX9_deeds_63 (by decide) (fun q => ?_) (fun q => ?_)
            · skip
              have h33 := ifP q e30
              refine GX_iload hC dX9_deeds_66 rfl ?_
              refine GX_goto hC 76 dX9_deeds_68 (by decide) ?_
              exact GX_nm (oi h33) hJ32
            · skip
              have h34 := ifN q e30
              refine GX_iload hC dX9_deeds_71 rfl ?_
              refine GX_callS_i (st := []) hC (C_bitCount r26 m22) okJ_bitCount lkX9_245 rfl (Nat.le_of_ble_eq_true rfl) (Nat.le_of_ble_eq_true rfl) hk rfl (Nat.le_of_ble_eq_true rfl) dX9_deeds_73 ?_
              exact GX_nm (oi h34) hJ32
          exact GX_iretW hC hR dX9_deeds_76 (oi h31)
        · skip
          have h35 := ifF q h24
          refine GX_bipush hC (-13) dX9_deeds_50 rfl ?_
          exact GX_iretW hC hR dX9_deeds_52 (oi h35)
    refine GX_aload_n hC dX9_deeds_6 rfl ?_
    refine GX_ifnull hC dX9_deeds_7 ?_
    refine GX_iload_n hC dX9_deeds_10 rfl ?_
    refine GX_if_lt_P hC 19 dX9_deeds_11 (by decide) (fun q => ?_) (fun q => ?_)
    · skip
      have h36 := ifP q e10
      exact hc12 (oi h36)
    · skip
      have h37 := ifN q e10
      refine GX_iload_n hC dX9_deeds_14 rfl ?_
      refine GX_iconst hC 1 dX9_deeds_15 rfl ?_
      refine GX_icmp_le_N hC 21 dX9_deeds_16 (by decide) (fun q => ?_) (fun q => ?_)
      · skip
        exact hc12 (cdT q h37)
      · skip
        exact hc14 (cdF q h37)
set_option maxRecDepth 100000 in
set_option maxHeartbeats 4000000 in
theorem C_N_drawBelow {l : Launch} {seed1 : Int32} {n2 : Int32} {μ0 : MI} {r0 : Int32}  (hf : N_drawBelow seed1 n2 = some r0) : Cn l yX9_drawBelow cX9_drawBelow 2 (some .int) 0 LAY (fun ad => [.int seed1, .int n2]) μ0 (fun _ => some (.int r0)) μ0 := by
  refine Cn.of (fun ad => [some (.int seed1), some (.int n2)]) (by decide +kernel) (fun _ => rfl) (fun _ => Nat.le_of_ble_eq_true rfl) (fun Γ hl hC hR hk => ?_)
  subst hl
  replace hC : CX Γ cX9_drawBelow RX9 LAY 0 2 := hC
  dsimp only [N_drawBelow] at hf
  obtain ⟨x3, e4, h5⟩ := ob hf
  suffices hJ6 : GX Γ LAY 0 0 [some (.int seed1), some (.int n2)] [.int x3] μ0 18 by
    refine GX_iload_n hC dX9_drawBelow_0 rfl ?_
    refine GX_if_le_N hC 17 dX9_drawBelow_1 (by decide) (fun q => ?_) (fun q => ?_)
    · skip
      have h7 := ifP q e4
      refine GX_iload_n hC dX9_drawBelow_4 rfl ?_
      refine GX_ldc hC 2147483647 kcX9_216 dX9_drawBelow_5 ?_
      refine GX_iand hC dX9_drawBelow_7 ?_
      refine GX_ldcw hC 65536 kcX9_346 dX9_drawBelow_8 ?_
      refine GX_idiv hC dX9_drawBelow_11 (by decide) ?_
      refine GX_iload_n hC dX9_drawBelow_12 rfl ?_
      obtain ⟨q8, e9, h10⟩ := ob h7
      refine GX_rmO hC e9 dX9_drawBelow_13 ?_
      refine GX_goto hC 18 dX9_drawBelow_14 (by decide) ?_
      exact GX_nm (oi h10) hJ6
    · skip
      have h11 := ifN q e4
      refine GX_iconst hC 0 dX9_drawBelow_17 rfl ?_
      exact GX_nm (oi h11) hJ6
  exact GX_iretR hC hR dX9_drawBelow_18 (oi h5)
set_option maxRecDepth 100000 in
set_option maxHeartbeats 4000000 in
theorem C_N_drawInMind {l : Launch} {field1 : Int32} {person2 : Int32} {m3 : MI} {mr : MI}  (hf : N_drawInMind field1 person2 m3 = some mr) : Cn l yX9_drawInMind cX9_drawInMind 3 none 4 LAY (fun ad => .ref (ad 0) :: [.int field1, .int person2]) m3 (fun _ => none) mr := by
  refine Cn.of (fun ad => [some (.ref (ad 0)), some (.int field1), some (.int person2)]) (by decide +kernel) (fun _ => rfl) (fun _ => Nat.le_of_ble_eq_true rfl) (fun Γ hl hC hR hk => ?_)
  subst hl
  replace hC : CX Γ cX9_drawInMind RX9 LAY 4 3 := hC
  dsimp only [N_drawInMind] at hf
  refine GX_iload_n hC dX9_drawInMind_0 rfl ?_
  refine GX_aload_n hC dX9_drawInMind_1 rfl ?_
  refine GX_getR hC fkX9_16 ol_0 rfl dX9_drawInMind_2 ?_
  refine GX_getI hC fkX9_228 (olLand isLand_8) rfl dX9_drawInMind_5 ?_
  refine GX_icmp_lt_N hC 12 dX9_drawInMind_8 (by decide) (fun q => ?_) (fun q => ?_)
  · skip
    have h4 := ifP q hf
    exact GX_vretW hC hR dX9_drawInMind_11 (oi h4)
  · skip
    have h5 := ifN q hf
    refine GX_aload_n hC dX9_drawInMind_12 rfl ?_
    refine GX_getR hC fkX9_16 ol_0 rfl dX9_drawInMind_13 ?_
    refine GX_iload_n hC dX9_drawInMind_16 rfl ?_
    refine GX_iload_n hC dX9_drawInMind_17 rfl ?_
    obtain ⟨⟨b6, m7⟩, e8, h9⟩ := ob h5
    refine GX_callV_i (st := []) hC (C_Land_give isLand_8 e8) okX2_give lkX9_151 (olLand isLand_8) rfl rfl (Nat.le_of_ble_eq_true rfl) (Nat.le_of_ble_eq_true rfl) hk rfl (Nat.le_of_ble_eq_true rfl) dX9_drawInMind_18 ?_
    refine GX_pop hC dX9_drawInMind_21 rfl ?_
    obtain ⟨o10, e11, h12⟩ := ob h9
    suffices hJ14 : ∀ (m13 : MI), m13 = o10 → GX Γ LAY 0 0 [some (.ref (gad Γ 0)), some (.int field1), some (.int person2)] [] m13 43 by
      refine GX_aload_n hC dX9_drawInMind_22 rfl ?_
      refine GX_getR hC fkX9_16 ol_0 rfl dX9_drawInMind_23 ?_
      obtain ⟨b15, e16, h17⟩ := ob e11
      refine GX_callV_i (st := []) hC (C_Land_isLawful isLand_8 e16) okX2_isLawful lkX9_154 (olLand isLand_8) rfl rfl (Nat.le_of_ble_eq_true rfl) (Nat.le_of_ble_eq_true rfl) hk rfl (Nat.le_of_ble_eq_true rfl) dX9_drawInMind_26 ?_
      refine GX_ifb_ne hC 43 dX9_drawInMind_29 (by decide) (fun q => ?_) (fun q => ?_)
      · skip
        have h18 := ifT q h17
        exact (hJ14 _ (oi h18))
      · skip
        have h19 := ifF q h17
        refine GX_aload_n hC dX9_drawInMind_32 rfl ?_
        refine GX_getR hC fkX9_16 ol_0 rfl dX9_drawInMind_33 ?_
        refine GX_bipush hC 9 dX9_drawInMind_36 rfl ?_
        refine GX_iload_n hC dX9_drawInMind_38 rfl ?_
        obtain ⟨⟨b20, m21⟩, e22, h23⟩ := ob h19
        refine GX_callV_i (st := []) hC (C_Land_give isLand_8 e22) okX2_give lkX9_151 (olLand isLand_8) rfl rfl (Nat.le_of_ble_eq_true rfl) (Nat.le_of_ble_eq_true rfl) hk rfl (Nat.le_of_ble_eq_true rfl) dX9_drawInMind_39 ?_
        refine GX_pop hC dX9_drawInMind_42 rfl ?_
        exact (hJ14 _ (oi h23))
    intro m13 q24
    subst q24
    exact GX_vretW hC hR dX9_drawInMind_43 (oi h12)
set_option maxRecDepth 100000 in
set_option maxHeartbeats 4000000 in
theorem C_N_lots {l : Launch} {z1 : Int32} {what2 : Int32} {m3 : MI} {r0 : Int32} {mr : MI}  (hf : N_lots z1 what2 m3 = some (r0, mr)) : Cn l yX9_lots cX9_lots 5 (some .int) 5 LAY (fun ad => .ref (ad 0) :: [.int z1, .int what2]) m3 (fun _ => some (.int r0)) mr := by
  refine Cn.of (fun ad => [some (.ref (ad 0)), some (.int z1), some (.int what2), none, none]) (by decide +kernel) (fun _ => rfl) (fun _ => Nat.le_of_ble_eq_true rfl) (fun Γ hl hC hR hk => ?_)
  subst hl
  replace hC : CX Γ cX9_lots RX9 LAY 5 5 := hC
  dsimp only [N_lots] at hf
  obtain ⟨c4, e5, h6⟩ := ob hf
  have hc7 : true = c4 → GX Γ LAY 0 0 [some (.ref (gad Γ 0)), some (.int z1), some (.int what2), none, none] [] m3 9 := by
    intro q
    have h8 := ifT q.symm h6
    refine GX_iconst hC (-1) dX9_lots_9 rfl ?_
    exact GX_iretW hC hR dX9_lots_10 (oi h8)
  have hc9 : false = c4 → GX Γ LAY 0 0 [some (.ref (gad Γ 0)), some (.int z1), some (.int what2), none, none] [] m3 11 := by
    intro q
    have h10 := ifF q.symm h6
    refine GX_aload_n hC dX9_lots_11 rfl ?_
    refine GX_getR hC fkX9_16 ol_0 rfl dX9_lots_12 ?_
    refine GX_aload_n hC dX9_lots_15 rfl ?_
    refine GX_getR hC fkX9_10 ol_0 rfl dX9_lots_16 ?_
    obtain ⟨m11, e12, h13⟩ := ob h10
    refine GX_callV_v (st := []) hC (C_Land_copyFrom isLand_8 isLand_1 e12) okX2_copyFrom lkX9_87 (olLand isLand_8) rfl rfl (Nat.le_of_ble_eq_true rfl) (Nat.le_of_ble_eq_true rfl) hk rfl (Nat.le_of_ble_eq_true rfl) dX9_lots_19 ?_
    refine GX_iload_n hC dX9_lots_22 rfl ?_
    refine GX_istore_n hC [some (.ref (gad Γ 0)), some (.int z1), some (.int what2), some (.int z1), none] dX9_lots_23 (by decide) rfl rfl ?_
    refine GX_iconst hC 0 dX9_lots_24 rfl ?_
    refine GX_istore hC [some (.ref (gad Γ 0)), some (.int z1), some (.int what2), some (.int z1), some (.int 0)] dX9_lots_25 (by decide) rfl rfl ?_
    obtain ⟨o14, e15, h16⟩ := ob h13
    suffices hJ17 : ∀ (seed21 : Int32) (m22 : MI), (seed21, m22) = o14 → GX Γ LAY 0 0 [some (.ref (gad Γ 0)), some (.int z1), some (.int what2), some (.int seed21), none] [] m22 87 by
      refine lp_walk (P := fun s => GX Γ LAY 0 0 [some (.ref (gad Γ 0)), some (.int z1), some (.int what2), some (.int s.1), some (.int s.2.1)] [] s.2.2 27) (fun s x hx17 hI17 hO17 => ?_) _ _ e15
      obtain ⟨seed18, f19, m20⟩ := s
      show GX Γ LAY 0 0 [some (.ref (gad Γ 0)), some (.int z1), some (.int what2), some (.int seed18), some (.int f19)] [] m20 27
      dsimp only [N_lots_s1] at hx17
      refine GX_iload hC dX9_lots_27 rfl ?_
      refine GX_aload_n hC dX9_lots_29 rfl ?_
      refine GX_getR hC fkX9_16 ol_0 rfl dX9_lots_30 ?_
      refine GX_getI hC fkX9_175 (olLand isLand_8) rfl dX9_lots_33 ?_
      refine GX_icmp_ge_N hC 87 dX9_lots_36 (by decide) (fun q => ?_) (fun q => ?_)
      · skip
        have h23 := ifP q hx17
        obtain ⟨o24, e25, h26⟩ := ob h23
        suffices hJ29 : ∀ (seed27 : Int32) (m28 : MI), (seed27, m28) = o24 → GX Γ LAY 0 0 [some (.ref (gad Γ 0)), some (.int z1), some (.int what2), some (.int seed27), some (.int f19)] [] m28 81 by
          refine GX_aload_n hC dX9_lots_39 rfl ?_
          refine GX_getR hC fkX9_16 ol_0 rfl dX9_lots_40 ?_
          refine GX_iload hC dX9_lots_43 rfl ?_
          obtain ⟨r30, e31, h32⟩ := ob e25
          refine GX_callV_i (st := []) hC (C_Land_ownerOf isLand_8 e31) okX2_ownerOf lkX9_103 (olLand isLand_8) rfl rfl (Nat.le_of_ble_eq_true rfl) (Nat.le_of_ble_eq_true rfl) hk rfl (Nat.le_of_ble_eq_true rfl) dX9_lots_45 ?_
          refine GX_bipush hC 9 dX9_lots_48 rfl ?_
          refine GX_icmp_ne_N hC 81 dX9_lots_50 (by decide) (fun q => ?_) (fun q => ?_)
          · skip
            have h33 := ifP q h32
            refine GX_iload_n hC dX9_lots_53 rfl ?_
            refine GX_ldc hC 1103515245 kcX9_250 dX9_lots_54 ?_
            refine GX_imul hC dX9_lots_56 ?_
            refine GX_sipush hC 12345 dX9_lots_57 rfl ?_
            refine GX_iadd hC dX9_lots_60 ?_
            obtain ⟨seed34, e35, h36⟩ := ob h33
            refine GX_nm (oi e35) ?_
            refine GX_istore_n hC [some (.ref (gad Γ 0)), some (.int z1), some (.int what2), some (.int seed34), some (.int f19)] dX9_lots_61 (by decide) rfl rfl ?_
            refine GX_aload_n hC dX9_lots_62 rfl ?_
            refine GX_iload hC dX9_lots_63 rfl ?_
            refine GX_iload_n hC dX9_lots_65 rfl ?_
            refine GX_aload_n hC dX9_lots_66 rfl ?_
            refine GX_getR hC fkX9_16 ol_0 rfl dX9_lots_67 ?_
            refine GX_getI hC fkX9_228 (olLand isLand_8) rfl dX9_lots_70 ?_
            refine GX_iconst hC 1 dX9_lots_73 rfl ?_
            refine GX_iadd hC dX9_lots_74 ?_
            obtain ⟨r37, e38, h39⟩ := ob h36
            refine GX_callS_i (st := [.int f19, .ref (gad Γ 0)]) hC (C_N_drawBelow e38) okX9_drawBelow lkX9_251 rfl (Nat.le_of_ble_eq_true rfl) (Nat.le_of_ble_eq_true rfl) hk rfl (Nat.le_of_ble_eq_true rfl) dX9_lots_75 ?_
            obtain ⟨m40, e41, h42⟩ := ob h39
            refine GX_callV_v (st := []) hC (C_N_drawInMind e41) okX9_drawInMind lkX9_254 ol_0 rfl rfl (Nat.le_of_ble_eq_true rfl) (Nat.le_of_ble_eq_true rfl) hk rfl (Nat.le_of_ble_eq_true rfl) dX9_lots_78 ?_
            exact (hJ29 _ _ (oi h42))
          · skip
            have h43 := ifN q h32
            exact (hJ29 _ _ (oi h43))
        intro seed27 m28 q44
        subst q44
        obtain ⟨i45, e46, h47⟩ := ob h26
        refine GX_iinc hC i45 [some (.ref (gad Γ 0)), some (.int z1), some (.int what2), some (.int seed27), some (.int i45)] dX9_lots_81 rfl (oi e46) (by decide) rfl rfl ?_
        refine GX_goto hC 27 dX9_lots_84 (by decide) ?_
        exact hI17 _ (oi h47).symm
      · skip
        have h48 := ifN q hx17
        exact GX.le (hJ17 _ _ (hO17 _ (oi h48).symm)) ⟨rfl, ⟨rfl, ⟨rfl, ⟨rfl, trivial⟩⟩⟩⟩
    intro seed21 m22 q49
    subst q49
    refine GX_iconst hC 1 dX9_lots_87 rfl ?_
    refine GX_aload_n hC dX9_lots_88 rfl ?_
    refine GX_getR hC fkX9_16 ol_0 rfl dX9_lots_89 ?_
    refine GX_getI hC fkX9_175 (olLand isLand_8) rfl dX9_lots_92 ?_
    refine GX_ishl hC dX9_lots_95 ?_
    refine GX_iconst hC 1 dX9_lots_96 rfl ?_
    refine GX_isub hC dX9_lots_97 ?_
    obtain ⟨all50, e51, h52⟩ := ob h16
    refine GX_nm (oi e51) ?_
    refine GX_istore hC [some (.ref (gad Γ 0)), some (.int z1), some (.int what2), some (.int seed21), some (.int all50)] dX9_lots_98 (by decide) rfl rfl ?_
    obtain ⟨x53, e54, h55⟩ := ob h52
    suffices hJ56 : GX Γ LAY 0 0 [some (.ref (gad Γ 0)), some (.int z1), some (.int what2), some (.int seed21), some (.int all50)] [.int x53] m22 123 by
      refine GX_iload_n hC dX9_lots_100 rfl ?_
      refine GX_if_ne_N hC 114 dX9_lots_101 (by decide) (fun q => ?_) (fun q => ?_)
      · skip
        have h57 := ifP q e54
        refine GX_aload_n hC dX9_lots_104 rfl ?_
        refine GX_getR hC fkX9_16 ol_0 rfl dX9_lots_105 ?_
        obtain ⟨r58, e59, h60⟩ := ob h57
        refine GX_callV_i (st := []) hC (C_Land_ownedCount isLand_8 e59) okX2_ownedCount lkX9_258 (olLand isLand_8) rfl rfl (Nat.le_of_ble_eq_true rfl) (Nat.le_of_ble_eq_true rfl) hk rfl (Nat.le_of_ble_eq_true rfl) dX9_lots_108 ?_
        refine GX_goto hC 123 dX9_lots_111 (by decide) ?_
        exact GX_nm (oi h60) hJ56
      · skip
        have h61 := ifN q e54
        refine GX_aload_n hC dX9_lots_114 rfl ?_
        refine GX_getR hC fkX9_16 ol_0 rfl dX9_lots_115 ?_
        refine GX_iload hC dX9_lots_118 rfl ?_
        obtain ⟨r62, e63, h64⟩ := ob h61
        refine GX_callV_i (st := []) hC (C_Land_worthToOwners isLand_8 e63) okX2_worthToOwners lkX9_217 (olLand isLand_8) rfl rfl (Nat.le_of_ble_eq_true rfl) (Nat.le_of_ble_eq_true rfl) hk rfl (Nat.le_of_ble_eq_true rfl) dX9_lots_120 ?_
        exact GX_nm (oi h64) hJ56
    exact GX_iretW hC hR dX9_lots_123 (oi h55)
  refine GX_iload_n hC dX9_lots_0 rfl ?_
  refine GX_if_lt_P hC 9 dX9_lots_1 (by decide) (fun q => ?_) (fun q => ?_)
  · skip
    have h65 := ifP q e5
    exact hc7 (oi h65)
  · skip
    have h66 := ifN q e5
    refine GX_iload_n hC dX9_lots_4 rfl ?_
    refine GX_iconst hC 1 dX9_lots_5 rfl ?_
    refine GX_icmp_le_N hC 11 dX9_lots_6 (by decide) (fun q => ?_) (fun q => ?_)
    · skip
      exact hc7 (cdT q h66)
    · skip
      exact hc9 (cdF q h66)
set_option maxRecDepth 100000 in
set_option maxHeartbeats 4000000 in
theorem C_N_image {l : Launch} {m1 : MI} {r0 : Int32} {mr : MI}  (hf : N_image m1 = some (r0, mr)) : Cn l yX9_image cX9_image 1 (some .int) 2 LAY (fun ad => .ref (ad 0) :: []) m1 (fun _ => some (.int r0)) mr := by
  refine Cn.of (fun ad => [some (.ref (ad 0))]) (by decide +kernel) (fun _ => rfl) (fun _ => Nat.le_of_ble_eq_true rfl) (fun Γ hl hC hR hk => ?_)
  subst hl
  replace hC : CX Γ cX9_image RX9 LAY 2 1 := hC
  dsimp only [N_image] at hf
  refine GX_aload_n hC dX9_image_0 rfl ?_
  refine GX_getR hC fkX9_19 ol_0 rfl dX9_image_1 ?_
  refine GX_aload_n hC dX9_image_4 rfl ?_
  refine GX_getR hC fkX9_10 ol_0 rfl dX9_image_5 ?_
  obtain ⟨m2, e3, h4⟩ := ob hf
  refine GX_callV_v (st := []) hC (C_Land_copyFrom isLand_15 isLand_1 e3) okX2_copyFrom lkX9_87 (olLand isLand_15) rfl rfl (Nat.le_of_ble_eq_true rfl) (Nat.le_of_ble_eq_true rfl) hk rfl (Nat.le_of_ble_eq_true rfl) dX9_image_8 ?_
  refine GX_aload_n hC dX9_image_11 rfl ?_
  refine GX_iconst hC (bI true) dX9_image_12 rfl ?_
  obtain ⟨m5, e6, h7⟩ := ob h4
  refine GX_stZ hC e6 fkX9_22 ftX9_3 ol_0 rfl dX9_image_13 ?_
  refine GX_aload_n hC dX9_image_16 rfl ?_
  refine GX_getR hC fkX9_10 ol_0 rfl dX9_image_17 ?_
  refine GX_getI hC fkX9_175 (olLand isLand_1) rfl dX9_image_20 ?_
  exact GX_iretW hC hR dX9_image_23 (oi h7)
set_option maxRecDepth 100000 in
set_option maxHeartbeats 4000000 in
theorem C_N_restore {l : Launch} {m1 : MI} {r0 : Int32} {mr : MI}  (hf : N_restore m1 = some (r0, mr)) : Cn l yX9_restore cX9_restore 1 (some .int) 2 LAY (fun ad => .ref (ad 0) :: []) m1 (fun _ => some (.int r0)) mr := by
  refine Cn.of (fun ad => [some (.ref (ad 0))]) (by decide +kernel) (fun _ => rfl) (fun _ => Nat.le_of_ble_eq_true rfl) (fun Γ hl hC hR hk => ?_)
  subst hl
  replace hC : CX Γ cX9_restore RX9 LAY 2 1 := hC
  dsimp only [N_restore] at hf
  refine GX_aload_n hC dX9_restore_0 rfl ?_
  obtain ⟨b2, e3, h4⟩ := ob hf
  refine GX_ldZ hC e3 fkX9_22 ol_0 rfl dX9_restore_1 ?_
  refine GX_ifb_ne hC 10 dX9_restore_4 (by decide) (fun q => ?_) (fun q => ?_)
  · skip
    have h5 := ifT q h4
    refine GX_aload_n hC dX9_restore_10 rfl ?_
    refine GX_getR hC fkX9_10 ol_0 rfl dX9_restore_11 ?_
    refine GX_aload_n hC dX9_restore_14 rfl ?_
    refine GX_getR hC fkX9_19 ol_0 rfl dX9_restore_15 ?_
    obtain ⟨m6, e7, h8⟩ := ob h5
    refine GX_callV_v (st := []) hC (C_Land_copyFrom isLand_1 isLand_15 e7) okX2_copyFrom lkX9_87 (olLand isLand_1) rfl rfl (Nat.le_of_ble_eq_true rfl) (Nat.le_of_ble_eq_true rfl) hk rfl (Nat.le_of_ble_eq_true rfl) dX9_restore_18 ?_
    refine GX_aload_n hC dX9_restore_21 rfl ?_
    refine GX_getR hC fkX9_10 ol_0 rfl dX9_restore_22 ?_
    refine GX_getI hC fkX9_175 (olLand isLand_1) rfl dX9_restore_25 ?_
    exact GX_iretW hC hR dX9_restore_28 (oi h8)
  · skip
    have h9 := ifF q h4
    refine GX_bipush hC (-3) dX9_restore_7 rfl ?_
    exact GX_iretW hC hR dX9_restore_9 (oi h9)
set_option maxRecDepth 100000 in
set_option maxHeartbeats 4000000 in
theorem C_N_count {l : Launch} {what1 : Int32} {m2 : MI} {r0 : Int32}  (hf : N_count what1 m2 = some r0) : Cn l yX9_count cX9_count 2 (some .int) 3 LAY (fun ad => .ref (ad 0) :: [.int what1]) m2 (fun _ => some (.int r0)) m2 := by
  refine Cn.of (fun ad => [some (.ref (ad 0)), some (.int what1)]) (by decide +kernel) (fun _ => rfl) (fun _ => Nat.le_of_ble_eq_true rfl) (fun Γ hl hC hR hk => ?_)
  subst hl
  replace hC : CX Γ cX9_count RX9 LAY 3 2 := hC
  dsimp only [N_count] at hf
  refine GX_iload_n hC dX9_count_0 rfl ?_
  by_cases q0 : what1 = 0
  · skip
    have h3 := ifP q0 hf
    refine GX_tableIn hC 0 48 dX9_count_1 q0 (by decide) (by decide) rfl (by decide) ?_
    refine GX_aload_n hC dX9_count_48 rfl ?_
    refine GX_getR hC fkX9_10 ol_0 rfl dX9_count_49 ?_
    refine GX_getI hC fkX9_175 (olLand isLand_1) rfl dX9_count_52 ?_
    exact GX_iretR hC hR dX9_count_55 (oi h3)
  · skip
    have h4 := ifN q0 hf
    by_cases q1 : what1 = 1
    · skip
      have h5 := ifP q1 h4
      refine GX_tableIn hC 1 56 dX9_count_1 q1 (by decide) (by decide) rfl (by decide) ?_
      refine GX_aload_n hC dX9_count_56 rfl ?_
      refine GX_getR hC fkX9_10 ol_0 rfl dX9_count_57 ?_
      refine GX_getI hC fkX9_228 (olLand isLand_1) rfl dX9_count_60 ?_
      exact GX_iretR hC hR dX9_count_63 (oi h5)
    · skip
      have h6 := ifN q1 h4
      by_cases q2 : what1 = 2
      · skip
        have h7 := ifP q2 h6
        refine GX_tableIn hC 2 64 dX9_count_1 q2 (by decide) (by decide) rfl (by decide) ?_
        refine GX_aload_n hC dX9_count_64 rfl ?_
        refine GX_getR hC fkX9_10 ol_0 rfl dX9_count_65 ?_
        obtain ⟨r8, e9, h10⟩ := ob h7
        refine GX_callV_i (st := []) hC (C_Land_allAcres isLand_1 e9) okX2_allAcres lkX9_261 (olLand isLand_1) rfl rfl (Nat.le_of_ble_eq_true rfl) (Nat.le_of_ble_eq_true rfl) hk rfl (Nat.le_of_ble_eq_true rfl) dX9_count_68 ?_
        exact GX_iretR hC hR dX9_count_71 (oi h10)
      · skip
        have h11 := ifN q2 h6
        by_cases q3 : what1 = 3
        · skip
          have h12 := ifP q3 h11
          refine GX_tableIn hC 3 72 dX9_count_1 q3 (by decide) (by decide) rfl (by decide) ?_
          refine GX_aload_n hC dX9_count_72 rfl ?_
          refine GX_getR hC fkX9_10 ol_0 rfl dX9_count_73 ?_
          obtain ⟨r13, e14, h15⟩ := ob h12
          refine GX_callV_i (st := []) hC (C_Land_ownedCount isLand_1 e14) okX2_ownedCount lkX9_258 (olLand isLand_1) rfl rfl (Nat.le_of_ble_eq_true rfl) (Nat.le_of_ble_eq_true rfl) hk rfl (Nat.le_of_ble_eq_true rfl) dX9_count_76 ?_
          exact GX_iretR hC hR dX9_count_79 (oi h15)
        · skip
          have h16 := ifN q3 h11
          by_cases q4 : what1 = 4
          · skip
            have h17 := ifP q4 h16
            refine GX_tableIn hC 4 80 dX9_count_1 q4 (by decide) (by decide) rfl (by decide) ?_
            refine GX_aload_n hC dX9_count_80 rfl ?_
            refine GX_getR hC fkX9_10 ol_0 rfl dX9_count_81 ?_
            refine GX_iconst hC 1 dX9_count_84 rfl ?_
            obtain ⟨r18, e19, h20⟩ := ob h17
            refine GX_callV_i (st := []) hC (C_Land_touchCount isLand_1 e19) okX2_touchCount lkX9_264 (olLand isLand_1) rfl rfl (Nat.le_of_ble_eq_true rfl) (Nat.le_of_ble_eq_true rfl) hk rfl (Nat.le_of_ble_eq_true rfl) dX9_count_85 ?_
            refine GX_aload_n hC dX9_count_88 rfl ?_
            refine GX_getR hC fkX9_10 ol_0 rfl dX9_count_89 ?_
            refine GX_iconst hC 2 dX9_count_92 rfl ?_
            obtain ⟨r21, e22, h23⟩ := ob h20
            refine GX_callV_i (st := [.int r18]) hC (C_Land_touchCount isLand_1 e22) okX2_touchCount lkX9_264 (olLand isLand_1) rfl rfl (Nat.le_of_ble_eq_true rfl) (Nat.le_of_ble_eq_true rfl) hk rfl (Nat.le_of_ble_eq_true rfl) dX9_count_93 ?_
            refine GX_iadd hC dX9_count_96 ?_
            exact GX_iretR hC hR dX9_count_97 (oi h23)
          · skip
            have h24 := ifN q4 h16
            by_cases q5 : what1 = 5
            · skip
              have h25 := ifP q5 h24
              refine GX_tableIn hC 5 98 dX9_count_1 q5 (by decide) (by decide) rfl (by decide) ?_
              refine GX_aload_n hC dX9_count_98 rfl ?_
              refine GX_getR hC fkX9_10 ol_0 rfl dX9_count_99 ?_
              refine GX_iconst hC 2 dX9_count_102 rfl ?_
              obtain ⟨r26, e27, h28⟩ := ob h25
              refine GX_callV_i (st := []) hC (C_Land_touchCount isLand_1 e27) okX2_touchCount lkX9_264 (olLand isLand_1) rfl rfl (Nat.le_of_ble_eq_true rfl) (Nat.le_of_ble_eq_true rfl) hk rfl (Nat.le_of_ble_eq_true rfl) dX9_count_103 ?_
              exact GX_iretR hC hR dX9_count_106 (oi h28)
            · skip
              have h29 := ifN q5 h24
              by_cases q6 : what1 = 6
              · skip
                have h30 := ifP q6 h29
                refine GX_tableIn hC 6 107 dX9_count_1 q6 (by decide) (by decide) rfl (by decide) ?_
                refine GX_aload_n hC dX9_count_107 rfl ?_
                refine GX_getR hC fkX9_10 ol_0 rfl dX9_count_108 ?_
                refine GX_iconst hC 3 dX9_count_111 rfl ?_
                obtain ⟨r31, e32, h33⟩ := ob h30
                refine GX_callV_i (st := []) hC (C_Land_touchCount isLand_1 e32) okX2_touchCount lkX9_264 (olLand isLand_1) rfl rfl (Nat.le_of_ble_eq_true rfl) (Nat.le_of_ble_eq_true rfl) hk rfl (Nat.le_of_ble_eq_true rfl) dX9_count_112 ?_
                exact GX_iretR hC hR dX9_count_115 (oi h33)
              · skip
                have h34 := ifN q6 h29
                by_cases q7 : what1 = 7
                · skip
                  have h35 := ifP q7 h34
                  refine GX_tableIn hC 7 116 dX9_count_1 q7 (by decide) (by decide) rfl (by decide) ?_
                  refine GX_aload_n hC dX9_count_116 rfl ?_
                  refine GX_getR hC fkX9_10 ol_0 rfl dX9_count_117 ?_
                  obtain ⟨r36, e37, h38⟩ := ob h35
                  refine GX_callV_i (st := []) hC (C_Land_allCoins isLand_1 e37) okX2_allCoins lkX9_267 (olLand isLand_1) rfl rfl (Nat.le_of_ble_eq_true rfl) (Nat.le_of_ble_eq_true rfl) hk rfl (Nat.le_of_ble_eq_true rfl) dX9_count_120 ?_
                  exact GX_iretR hC hR dX9_count_123 (oi h38)
                · skip
                  have h39 := ifN q7 h34
                  refine GX_tableOut hC 124 dX9_count_1 (by have n0 := sw_ne q0 (z := 0) rfl; have n1 := sw_ne q1 (z := 1) rfl; have n2 := sw_ne q2 (z := 2) rfl; have n3 := sw_ne q3 (z := 3) rfl; have n4 := sw_ne q4 (z := 4) rfl; have n5 := sw_ne q5 (z := 5) rfl; have n6 := sw_ne q6 (z := 6) rfl; have n7 := sw_ne q7 (z := 7) rfl; omega) (by decide) ?_
                  refine GX_iconst hC (-1) dX9_count_124 rfl ?_
                  exact GX_iretR hC hR dX9_count_125 (oi h39)
