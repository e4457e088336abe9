set_option maxRecDepth 100000 in
set_option maxHeartbeats 4000000 in
theorem C_Move_buyFor {l : Launch} {t : Nat} {land1 : Nat} {price2 : Int32} {m3 : MI} {mr : MI} (ht : isMove t) (hp_land1 : isLand land1) (hf : Move_buyFor t land1 price2 m3 = some mr) : Cn l yX4_buyFor cX4_buyFor 3 none 3 LAY (fun ad => .ref (ad t) :: [.ref (ad land1), .int price2]) m3 (fun _ => none) mr := by
  refine Cn.of (fun ad => [some (.ref (ad t)), some (.ref (ad land1)), some (.int price2)]) (by decide +kernel) (fun _ => rfl) (fun _ => Nat.le_of_ble_eq_true rfl) (fun Γ hl hC hR hk => ?_)
  subst hl
  replace hC : CX Γ cX4_buyFor RX4 LAY 3 3 := hC
  dsimp only [Move_buyFor] at hf
  refine GX_aload_n hC dX4_buyFor_0 rfl ?_
  refine GX_aload_n hC dX4_buyFor_1 rfl ?_
  refine GX_getI hC fkX4_15 (olMove ht) rfl dX4_buyFor_2 ?_
  refine GX_iload_n hC dX4_buyFor_5 rfl ?_
  refine GX_ineg hC dX4_buyFor_6 ?_
  obtain ⟨m4, e5, h6⟩ := ob hf
  refine GX_callV_v (st := []) hC (C_Land_earn hp_land1 e5) okX2_earn lkX4_62 (olLand hp_land1) rfl rfl (Nat.le_of_ble_eq_true rfl) (Nat.le_of_ble_eq_true rfl) hk rfl (Nat.le_of_ble_eq_true rfl) dX4_buyFor_7 ?_
  refine GX_aload_n hC dX4_buyFor_10 rfl ?_
  refine GX_aload_n hC dX4_buyFor_11 rfl ?_
  refine GX_aload_n hC dX4_buyFor_12 rfl ?_
  refine GX_getI hC fkX4_18 (olMove ht) rfl dX4_buyFor_13 ?_
  obtain ⟨r7, e8, h9⟩ := ob h6
  refine GX_callV_i (st := [.ref (gad Γ land1)]) hC (C_Land_ownerOf hp_land1 e8) okX2_ownerOf lkX4_36 (olLand hp_land1) rfl rfl (Nat.le_of_ble_eq_true rfl) (Nat.le_of_ble_eq_true rfl) hk rfl (Nat.le_of_ble_eq_true rfl) dX4_buyFor_16 ?_
  refine GX_iload_n hC dX4_buyFor_19 rfl ?_
  obtain ⟨m10, e11, h12⟩ := ob h9
  refine GX_callV_v (st := []) hC (C_Land_earn hp_land1 e11) okX2_earn lkX4_62 (olLand hp_land1) rfl rfl (Nat.le_of_ble_eq_true rfl) (Nat.le_of_ble_eq_true rfl) hk rfl (Nat.le_of_ble_eq_true rfl) dX4_buyFor_20 ?_
  refine GX_aload_n hC dX4_buyFor_23 rfl ?_
  refine GX_aload_n hC dX4_buyFor_24 rfl ?_
  refine GX_getI hC fkX4_15 (olMove ht) rfl dX4_buyFor_25 ?_
  refine GX_aload_n hC dX4_buyFor_28 rfl ?_
  refine GX_getI hC fkX4_18 (olMove ht) rfl dX4_buyFor_29 ?_
  obtain ⟨⟨b13, m14⟩, e15, h16⟩ := ob h12
  refine GX_callV_i (st := []) hC (C_Land_give hp_land1 e15) okX2_give lkX4_66 (olLand hp_land1) rfl rfl (Nat.le_of_ble_eq_true rfl) (Nat.le_of_ble_eq_true rfl) hk rfl (Nat.le_of_ble_eq_true rfl) dX4_buyFor_32 ?_
  refine GX_pop hC dX4_buyFor_35 rfl ?_
  exact GX_vretW hC hR dX4_buyFor_36 (oi h16)
set_option maxRecDepth 100000 in
set_option maxHeartbeats 4000000 in
theorem C_Move_goRound {l : Launch} {t : Nat} {land1 : Nat} {last2 : Int32} {m3 : MI} {mr : MI} (ht : isMove t) (hp_land1 : isLand land1) (hf : Move_goRound t land1 last2 m3 = some mr) : Cn l yX4_goRound cX4_goRound 6 none 3 LAY (fun ad => .ref (ad t) :: [.ref (ad land1), .int last2]) m3 (fun _ => none) mr := by
  refine Cn.of (fun ad => [some (.ref (ad t)), some (.ref (ad land1)), some (.int last2), none, none, none]) (by decide +kernel) (fun _ => rfl) (fun _ => Nat.le_of_ble_eq_true rfl) (fun Γ hl hC hR hk => ?_)
  subst hl
  replace hC : CX Γ cX4_goRound RX4 LAY 3 6 := hC
  dsimp only [Move_goRound] at hf
  refine GX_aload_n hC dX4_goRound_0 rfl ?_
  refine GX_aload_n hC dX4_goRound_1 rfl ?_
  refine GX_getI hC fkX4_18 (olMove ht) rfl dX4_goRound_2 ?_
  obtain ⟨r4, e5, h6⟩ := ob hf
  refine GX_callV_i (st := []) hC (C_Land_ownerOf hp_land1 e5) okX2_ownerOf lkX4_36 (olLand hp_land1) rfl rfl (Nat.le_of_ble_eq_true rfl) (Nat.le_of_ble_eq_true rfl) hk rfl (Nat.le_of_ble_eq_true rfl) dX4_goRound_5 ?_
  refine GX_istore_n hC [some (.ref (gad Γ t)), some (.ref (gad Γ land1)), some (.int last2), some (.int r4), none, none] dX4_goRound_8 (by decide) rfl rfl ?_
  refine GX_aload_n hC dX4_goRound_9 rfl ?_
  refine GX_aload_n hC dX4_goRound_10 rfl ?_
  refine GX_getI hC fkX4_21 (olMove ht) rfl dX4_goRound_11 ?_
  obtain ⟨r7, e8, h9⟩ := ob h6
  refine GX_callV_i (st := []) hC (C_Land_ownerOf hp_land1 e8) okX2_ownerOf lkX4_36 (olLand hp_land1) rfl rfl (Nat.le_of_ble_eq_true rfl) (Nat.le_of_ble_eq_true rfl) hk rfl (Nat.le_of_ble_eq_true rfl) dX4_goRound_14 ?_
  refine GX_istore hC [some (.ref (gad Γ t)), some (.ref (gad Γ land1)), some (.int last2), some (.int r4), some (.int r7), none] dX4_goRound_17 (by decide) rfl rfl ?_
  refine GX_aload_n hC dX4_goRound_19 rfl ?_
  refine GX_iload_n hC dX4_goRound_20 rfl ?_
  obtain ⟨r10, e11, h12⟩ := ob h9
  refine GX_callV_i (st := []) hC (C_Land_ownerOf hp_land1 e11) okX2_ownerOf lkX4_36 (olLand hp_land1) rfl rfl (Nat.le_of_ble_eq_true rfl) (Nat.le_of_ble_eq_true rfl) hk rfl (Nat.le_of_ble_eq_true rfl) dX4_goRound_21 ?_
  refine GX_istore hC [some (.ref (gad Γ t)), some (.ref (gad Γ land1)), some (.int last2), some (.int r4), some (.int r7), some (.int r10)] dX4_goRound_24 (by decide) rfl rfl ?_
  refine GX_aload_n hC dX4_goRound_26 rfl ?_
  refine GX_iload hC dX4_goRound_27 rfl ?_
  refine GX_aload_n hC dX4_goRound_29 rfl ?_
  refine GX_getI hC fkX4_18 (olMove ht) rfl dX4_goRound_30 ?_
  obtain ⟨⟨b13, m14⟩, e15, h16⟩ := ob h12
  refine GX_callV_i (st := []) hC (C_Land_give hp_land1 e15) okX2_give lkX4_66 (olLand hp_land1) rfl rfl (Nat.le_of_ble_eq_true rfl) (Nat.le_of_ble_eq_true rfl) hk rfl (Nat.le_of_ble_eq_true rfl) dX4_goRound_33 ?_
  refine GX_pop hC dX4_goRound_36 rfl ?_
  refine GX_aload_n hC dX4_goRound_37 rfl ?_
  refine GX_iload hC dX4_goRound_38 rfl ?_
  refine GX_iload_n hC dX4_goRound_40 rfl ?_
  obtain ⟨⟨b17, m18⟩, e19, h20⟩ := ob h16
  refine GX_callV_i (st := []) hC (C_Land_give hp_land1 e19) okX2_give lkX4_66 (olLand hp_land1) rfl rfl (Nat.le_of_ble_eq_true rfl) (Nat.le_of_ble_eq_true rfl) hk rfl (Nat.le_of_ble_eq_true rfl) dX4_goRound_41 ?_
  refine GX_pop hC dX4_goRound_44 rfl ?_
  refine GX_aload_n hC dX4_goRound_45 rfl ?_
  refine GX_iload_n hC dX4_goRound_46 rfl ?_
  refine GX_aload_n hC dX4_goRound_47 rfl ?_
  refine GX_getI hC fkX4_21 (olMove ht) rfl dX4_goRound_48 ?_
  obtain ⟨⟨b21, m22⟩, e23, h24⟩ := ob h20
  refine GX_callV_i (st := []) hC (C_Land_give hp_land1 e23) okX2_give lkX4_66 (olLand hp_land1) rfl rfl (Nat.le_of_ble_eq_true rfl) (Nat.le_of_ble_eq_true rfl) hk rfl (Nat.le_of_ble_eq_true rfl) dX4_goRound_51 ?_
  refine GX_pop hC dX4_goRound_54 rfl ?_
  exact GX_vretW hC hR dX4_goRound_55 (oi h24)
set_option maxRecDepth 100000 in
set_option maxHeartbeats 4000000 in
theorem C_Move_priceIn {l : Launch} {t : Nat} {land1 : Nat} {m2 : MI} {r0 : Int32} (ht : isMove t) (hp_land1 : isLand land1) (hf : Move_priceIn t land1 m2 = some r0) : Cn l yX4_priceIn cX4_priceIn 2 (some .int) 2 LAY (fun ad => .ref (ad t) :: [.ref (ad land1)]) m2 (fun _ => some (.int r0)) m2 := by
  refine Cn.of (fun ad => [some (.ref (ad t)), some (.ref (ad land1))]) (by decide +kernel) (fun _ => rfl) (fun _ => Nat.le_of_ble_eq_true rfl) (fun Γ hl hC hR hk => ?_)
  subst hl
  replace hC : CX Γ cX4_priceIn RX4 LAY 2 2 := hC
  dsimp only [Move_priceIn] at hf
  refine GX_bipush hC 10 dX4_priceIn_0 rfl ?_
  refine GX_aload_n hC dX4_priceIn_2 rfl ?_
  refine GX_aload_n hC dX4_priceIn_3 rfl ?_
  refine GX_getI hC fkX4_18 (olMove ht) rfl dX4_priceIn_4 ?_
  obtain ⟨r3, e4, h5⟩ := ob hf
  refine GX_callV_i (st := [.int 10]) hC (C_Land_acresOf hp_land1 e4) okX2_acresOf lkX4_44 (olLand hp_land1) rfl rfl (Nat.le_of_ble_eq_true rfl) (Nat.le_of_ble_eq_true rfl) hk rfl (Nat.le_of_ble_eq_true rfl) dX4_priceIn_7 ?_
  refine GX_imul hC dX4_priceIn_10 ?_
  refine GX_aload_n hC dX4_priceIn_11 rfl ?_
  refine GX_getI hC fkX4_24 (olMove ht) rfl dX4_priceIn_12 ?_
  refine GX_iadd hC dX4_priceIn_15 ?_
  exact GX_iretR hC hR dX4_priceIn_16 (oi h5)
set_option maxRecDepth 100000 in
set_option maxHeartbeats 4000000 in
theorem C_Move_doOn {l : Launch} {t : Nat} {land1 : Nat} {m2 : MI} {mr : MI} (ht : isMove t) (hp_land1 : isLand land1) (hf : Move_doOn t land1 m2 = some mr) : Cn l yX4_doOn cX4_doOn 2 none 4 LAY (fun ad => .ref (ad t) :: [.ref (ad land1)]) m2 (fun _ => none) mr := by
  refine Cn.of (fun ad => [some (.ref (ad t)), some (.ref (ad land1))]) (by decide +kernel) (fun _ => rfl) (fun _ => Nat.le_of_ble_eq_true rfl) (fun Γ hl hC hR hk => ?_)
  subst hl
  replace hC : CX Γ cX4_doOn RX4 LAY 4 2 := hC
  dsimp only [Move_doOn] at hf
  obtain ⟨o3, e4, h5⟩ := ob hf
  suffices hJ7 : ∀ (m6 : MI), m6 = o3 → GX Γ LAY 0 0 [some (.ref (gad Γ t)), some (.ref (gad Γ land1))] [] m6 174 by
    refine GX_aload_n hC dX4_doOn_0 rfl ?_
    refine GX_getI hC fkX4_9 (olMove ht) rfl dX4_doOn_1 ?_
    obtain ⟨w8, e9, h10⟩ := ob e4
    refine GX_nm (oi e9) ?_
    by_cases q0 : w8 = 1
    · skip
      have h11 := ifP q0 h10
      refine GX_tableIn hC 1 48 dX4_doOn_4 q0 (by decide) (by decide) rfl (by decide) ?_
      refine GX_aload_n hC dX4_doOn_48 rfl ?_
      refine GX_aload_n hC dX4_doOn_49 rfl ?_
      refine GX_aload_n hC dX4_doOn_50 rfl ?_
      refine GX_aload_n hC dX4_doOn_51 rfl ?_
      obtain ⟨r12, e13, h14⟩ := ob h11
      refine GX_callV_i (st := [.ref (gad Γ land1), .ref (gad Γ t)]) hC (C_Move_priceIn ht hp_land1 e13) okX4_priceIn lkX4_47 (olMove ht) rfl rfl (Nat.le_of_ble_eq_true rfl) (Nat.le_of_ble_eq_true rfl) hk rfl (Nat.le_of_ble_eq_true rfl) dX4_doOn_52 ?_
      obtain ⟨m15, e16, h17⟩ := ob h14
      refine GX_callV_v (st := []) hC (C_Move_buyFor ht hp_land1 e16) okX4_buyFor lkX4_51 (olMove ht) rfl rfl (Nat.le_of_ble_eq_true rfl) (Nat.le_of_ble_eq_true rfl) hk rfl (Nat.le_of_ble_eq_true rfl) dX4_doOn_55 ?_
      refine GX_goto hC 174 dX4_doOn_58 (by decide) ?_
      exact (hJ7 _ (oi h17))
    · skip
      have h18 := ifN q0 h10
      by_cases q1 : w8 = 2
      · skip
        have h19 := ifP q1 h18
        refine GX_tableIn hC 2 76 dX4_doOn_4 q1 (by decide) (by decide) rfl (by decide) ?_
        refine GX_aload_n hC dX4_doOn_76 rfl ?_
        refine GX_aload_n hC dX4_doOn_77 rfl ?_
        refine GX_aload_n hC dX4_doOn_78 rfl ?_
        refine GX_getI hC fkX4_21 (olMove ht) rfl dX4_doOn_79 ?_
        obtain ⟨m20, e21, h22⟩ := ob h19
        refine GX_callV_v (st := []) hC (C_Move_goRound ht hp_land1 e21) okX4_goRound lkX4_55 (olMove ht) rfl rfl (Nat.le_of_ble_eq_true rfl) (Nat.le_of_ble_eq_true rfl) hk rfl (Nat.le_of_ble_eq_true rfl) dX4_doOn_82 ?_
        refine GX_goto hC 174 dX4_doOn_85 (by decide) ?_
        exact (hJ7 _ (oi h22))
      · skip
        have h23 := ifN q1 h18
        by_cases q2 : w8 = 3
        · skip
          have h24 := ifP q2 h23
          refine GX_tableIn hC 3 88 dX4_doOn_4 q2 (by decide) (by decide) rfl (by decide) ?_
          refine GX_aload_n hC dX4_doOn_88 rfl ?_
          refine GX_aload_n hC dX4_doOn_89 rfl ?_
          refine GX_aload_n hC dX4_doOn_90 rfl ?_
          refine GX_getI hC fkX4_24 (olMove ht) rfl dX4_doOn_91 ?_
          obtain ⟨m25, e26, h27⟩ := ob h24
          refine GX_callV_v (st := []) hC (C_Move_goRound ht hp_land1 e26) okX4_goRound lkX4_55 (olMove ht) rfl rfl (Nat.le_of_ble_eq_true rfl) (Nat.le_of_ble_eq_true rfl) hk rfl (Nat.le_of_ble_eq_true rfl) dX4_doOn_94 ?_
          refine GX_goto hC 174 dX4_doOn_97 (by decide) ?_
          exact (hJ7 _ (oi h27))
        · skip
          have h28 := ifN q2 h23
          by_cases q3 : w8 = 4
          · skip
            have h29 := ifP q3 h28
            refine GX_tableIn hC 4 61 dX4_doOn_4 q3 (by decide) (by decide) rfl (by decide) ?_
            refine GX_aload_n hC dX4_doOn_61 rfl ?_
            refine GX_aload_n hC dX4_doOn_62 rfl ?_
            refine GX_iconst hC 2 dX4_doOn_63 rfl ?_
            refine GX_aload_n hC dX4_doOn_64 rfl ?_
            refine GX_aload_n hC dX4_doOn_65 rfl ?_
            obtain ⟨r30, e31, h32⟩ := ob h29
            refine GX_callV_i (st := [.int 2, .ref (gad Γ land1), .ref (gad Γ t)]) hC (C_Move_priceIn ht hp_land1 e31) okX4_priceIn lkX4_47 (olMove ht) rfl rfl (Nat.le_of_ble_eq_true rfl) (Nat.le_of_ble_eq_true rfl) hk rfl (Nat.le_of_ble_eq_true rfl) dX4_doOn_66 ?_
            refine GX_imul hC dX4_doOn_69 ?_
            obtain ⟨m33, e34, h35⟩ := ob h32
            refine GX_callV_v (st := []) hC (C_Move_buyFor ht hp_land1 e34) okX4_buyFor lkX4_51 (olMove ht) rfl rfl (Nat.le_of_ble_eq_true rfl) (Nat.le_of_ble_eq_true rfl) hk rfl (Nat.le_of_ble_eq_true rfl) dX4_doOn_70 ?_
            refine GX_goto hC 174 dX4_doOn_73 (by decide) ?_
            exact (hJ7 _ (oi h35))
          · skip
            have h36 := ifN q3 h28
            by_cases q4 : w8 = 5
            · skip
              have h37 := ifP q4 h36
              refine GX_tableIn hC 5 100 dX4_doOn_4 q4 (by decide) (by decide) rfl (by decide) ?_
              refine GX_aload_n hC dX4_doOn_100 rfl ?_
              refine GX_aload_n hC dX4_doOn_101 rfl ?_
              refine GX_getI hC fkX4_18 (olMove ht) rfl dX4_doOn_102 ?_
              refine GX_aload_n hC dX4_doOn_105 rfl ?_
              refine GX_getI hC fkX4_21 (olMove ht) rfl dX4_doOn_106 ?_
              refine GX_iconst hC 2 dX4_doOn_109 rfl ?_
              obtain ⟨m38, e39, h40⟩ := ob h37
              refine GX_callV_v (st := []) hC (C_Land_setTouch hp_land1 e39) okX2_setTouch lkX4_58 (olLand hp_land1) rfl rfl (Nat.le_of_ble_eq_true rfl) (Nat.le_of_ble_eq_true rfl) hk rfl (Nat.le_of_ble_eq_true rfl) dX4_doOn_110 ?_
              refine GX_aload_n hC dX4_doOn_113 rfl ?_
              refine GX_aload_n hC dX4_doOn_114 rfl ?_
              refine GX_getI hC fkX4_15 (olMove ht) rfl dX4_doOn_115 ?_
              refine GX_bipush hC (-5) dX4_doOn_118 rfl ?_
              refine GX_aload_n hC dX4_doOn_120 rfl ?_
              refine GX_getI hC fkX4_24 (olMove ht) rfl dX4_doOn_121 ?_
              refine GX_imul hC dX4_doOn_124 ?_
              obtain ⟨m41, e42, h43⟩ := ob h40
              refine GX_callV_v (st := []) hC (C_Land_earn hp_land1 e42) okX2_earn lkX4_62 (olLand hp_land1) rfl rfl (Nat.le_of_ble_eq_true rfl) (Nat.le_of_ble_eq_true rfl) hk rfl (Nat.le_of_ble_eq_true rfl) dX4_doOn_125 ?_
              refine GX_goto hC 174 dX4_doOn_128 (by decide) ?_
              exact (hJ7 _ (oi h43))
            · skip
              have h44 := ifN q4 h36
              by_cases q5 : w8 = 6
              · skip
                have h45 := ifP q5 h44
                refine GX_tableIn hC 6 131 dX4_doOn_4 q5 (by decide) (by decide) rfl (by decide) ?_
                refine GX_aload_n hC dX4_doOn_131 rfl ?_
                refine GX_bipush hC 9 dX4_doOn_132 rfl ?_
                refine GX_aload_n hC dX4_doOn_134 rfl ?_
                refine GX_getI hC fkX4_18 (olMove ht) rfl dX4_doOn_135 ?_
                obtain ⟨⟨b46, m47⟩, e48, h49⟩ := ob h45
                refine GX_callV_i (st := []) hC (C_Land_give hp_land1 e48) okX2_give lkX4_66 (olLand hp_land1) rfl rfl (Nat.le_of_ble_eq_true rfl) (Nat.le_of_ble_eq_true rfl) hk rfl (Nat.le_of_ble_eq_true rfl) dX4_doOn_138 ?_
                refine GX_pop hC dX4_doOn_141 rfl ?_
                refine GX_goto hC 174 dX4_doOn_142 (by decide) ?_
                exact (hJ7 _ (oi h49))
              · skip
                have h50 := ifN q5 h44
                by_cases q6 : w8 = 7
                · skip
                  have h51 := ifP q6 h50
                  refine GX_tableIn hC 7 145 dX4_doOn_4 q6 (by decide) (by decide) rfl (by decide) ?_
                  refine GX_aload_n hC dX4_doOn_145 rfl ?_
                  refine GX_bipush hC 9 dX4_doOn_146 rfl ?_
                  refine GX_aload_n hC dX4_doOn_148 rfl ?_
                  refine GX_getI hC fkX4_18 (olMove ht) rfl dX4_doOn_149 ?_
                  obtain ⟨⟨b52, m53⟩, e54, h55⟩ := ob h51
                  refine GX_callV_i (st := []) hC (C_Land_give hp_land1 e54) okX2_give lkX4_66 (olLand hp_land1) rfl rfl (Nat.le_of_ble_eq_true rfl) (Nat.le_of_ble_eq_true rfl) hk rfl (Nat.le_of_ble_eq_true rfl) dX4_doOn_152 ?_
                  refine GX_pop hC dX4_doOn_155 rfl ?_
                  refine GX_aload_n hC dX4_doOn_156 rfl ?_
                  refine GX_aload_n hC dX4_doOn_157 rfl ?_
                  refine GX_getI hC fkX4_15 (olMove ht) rfl dX4_doOn_158 ?_
                  refine GX_aload_n hC dX4_doOn_161 rfl ?_
                  refine GX_aload_n hC dX4_doOn_162 rfl ?_
                  obtain ⟨r56, e57, h58⟩ := ob h55
                  refine GX_callV_i (st := [.int (m53.1 t 1), .ref (gad Γ land1)]) hC (C_Move_priceIn ht hp_land1 e57) okX4_priceIn lkX4_47 (olMove ht) rfl rfl (Nat.le_of_ble_eq_true rfl) (Nat.le_of_ble_eq_true rfl) hk rfl (Nat.le_of_ble_eq_true rfl) dX4_doOn_163 ?_
                  refine GX_iconst hC 2 dX4_doOn_166 rfl ?_
                  refine GX_idiv hC dX4_doOn_167 (by decide) ?_
                  obtain ⟨m59, e60, h61⟩ := ob h58
                  refine GX_callV_v (st := []) hC (C_Land_earn hp_land1 e60) okX2_earn lkX4_62 (olLand hp_land1) rfl rfl (Nat.le_of_ble_eq_true rfl) (Nat.le_of_ble_eq_true rfl) hk rfl (Nat.le_of_ble_eq_true rfl) dX4_doOn_168 ?_
                  refine GX_goto hC 174 dX4_doOn_171 (by decide) ?_
                  exact (hJ7 _ (oi h61))
                · skip
                  have h62 := ifN q6 h50
                  refine GX_tableOut hC 174 dX4_doOn_4 (by have n0 := sw_ne q0 (z := 1) rfl; have n1 := sw_ne q1 (z := 2) rfl; have n2 := sw_ne q2 (z := 3) rfl; have n3 := sw_ne q3 (z := 4) rfl; have n4 := sw_ne q4 (z := 5) rfl; have n5 := sw_ne q5 (z := 6) rfl; have n6 := sw_ne q6 (z := 7) rfl; omega) (by decide) ?_
                  exact (hJ7 _ (oi h62))
  intro m6 q63
  subst q63
  exact GX_vretW hC hR dX4_doOn_174 (oi h5)
set_option maxRecDepth 100000 in
set_option maxHeartbeats 4000000 in
theorem C_Move_isAsTold {l : Launch} {t : Nat} {land1 : Nat} {m2 : MI} {r0 : Bool} (ht : isMove t) (hp_land1 : isLand land1) (hf : Move_isAsTold t land1 m2 = some r0) : Cn l yX4_isAsTold cX4_isAsTold 2 (some .boolean) 2 LAY (fun ad => .ref (ad t) :: [.ref (ad land1)]) m2 (fun _ => some (.int (bI r0))) m2 := by
  refine Cn.of (fun ad => [some (.ref (ad t)), some (.ref (ad land1))]) (by decide +kernel) (fun _ => rfl) (fun _ => Nat.le_of_ble_eq_true rfl) (fun Γ hl hC hR hk => ?_)
  subst hl
  replace hC : CX Γ cX4_isAsTold RX4 LAY 2 2 := hC
  dsimp only [Move_isAsTold] at hf
  refine GX_aload_n hC dX4_isAsTold_0 rfl ?_
  refine GX_getI hC fkX4_9 (olMove ht) rfl dX4_isAsTold_1 ?_
  obtain ⟨w3, e4, h5⟩ := ob hf
  refine GX_nm (oi e4) ?_
  by_cases q0 : w3 = 1
  · skip
    have h6 := ifP q0 h5
    refine GX_tableIn hC 1 48 dX4_isAsTold_4 q0 (by decide) (by decide) rfl (by decide) ?_
    obtain ⟨c7, e8, h9⟩ := ob h6
    suffices hJ10 : GX Γ LAY 0 0 [some (.ref (gad Γ t)), some (.ref (gad Γ land1))] [.int (bI c7)] m2 68 by
      have hc11 : true = c7 → GX Γ LAY 0 0 [some (.ref (gad Γ t)), some (.ref (gad Γ land1))] [] m2 63 := by
        intro q
        subst q
        refine GX_iconst hC (bI true) dX4_isAsTold_63 rfl ?_
        refine GX_goto hC 68 dX4_isAsTold_64 (by decide) ?_
        exact hJ10
      have hc12 : false = c7 → GX Γ LAY 0 0 [some (.ref (gad Γ t)), some (.ref (gad Γ land1))] [] m2 67 := by
        intro q
        subst q
        refine GX_iconst hC (bI false) dX4_isAsTold_67 rfl ?_
        exact hJ10
      refine GX_aload_n hC dX4_isAsTold_48 rfl ?_
      refine GX_aload_n hC dX4_isAsTold_49 rfl ?_
      refine GX_getI hC fkX4_18 (olMove ht) rfl dX4_isAsTold_50 ?_
      obtain ⟨r13, e14, h15⟩ := ob e8
      refine GX_callV_i (st := []) hC (C_Land_ownerOf hp_land1 e14) okX2_ownerOf lkX4_36 (olLand hp_land1) rfl rfl (Nat.le_of_ble_eq_true rfl) (Nat.le_of_ble_eq_true rfl) hk rfl (Nat.le_of_ble_eq_true rfl) dX4_isAsTold_53 ?_
      refine GX_aload_n hC dX4_isAsTold_56 rfl ?_
      refine GX_getI hC fkX4_15 (olMove ht) rfl dX4_isAsTold_57 ?_
      refine GX_icmp_eq_N hC 67 dX4_isAsTold_60 (by decide) (fun q => ?_) (fun q => ?_)
      · skip
        exact hc11 (cdT q h15)
      · skip
        exact hc12 (cdF q h15)
    exact GX_zretR hC c7 hR dX4_isAsTold_68 (oi h9)
  · skip
    have h16 := ifN q0 h5
    by_cases q1 : w3 = 2
    · skip
      have h17 := ifP q1 h16
      refine GX_tableIn hC 2 69 dX4_isAsTold_4 q1 (by decide) (by decide) rfl (by decide) ?_
      obtain ⟨c18, e19, h20⟩ := ob h17
      suffices hJ21 : GX Γ LAY 0 0 [some (.ref (gad Γ t)), some (.ref (gad Γ land1))] [.int (bI c18)] m2 85 by
        have hc22 : true = c18 → GX Γ LAY 0 0 [some (.ref (gad Γ t)), some (.ref (gad Γ land1))] [] m2 80 := by
          intro q
          subst q
          refine GX_iconst hC (bI true) dX4_isAsTold_80 rfl ?_
          refine GX_goto hC 85 dX4_isAsTold_81 (by decide) ?_
          exact hJ21
        have hc23 : false = c18 → GX Γ LAY 0 0 [some (.ref (gad Γ t)), some (.ref (gad Γ land1))] [] m2 84 := by
          intro q
          subst q
          refine GX_iconst hC (bI false) dX4_isAsTold_84 rfl ?_
          exact hJ21
        refine GX_aload_n hC dX4_isAsTold_69 rfl ?_
        refine GX_getI hC fkX4_18 (olMove ht) rfl dX4_isAsTold_70 ?_
        refine GX_aload_n hC dX4_isAsTold_73 rfl ?_
        refine GX_getI hC fkX4_21 (olMove ht) rfl dX4_isAsTold_74 ?_
        refine GX_icmp_eq_N hC 84 dX4_isAsTold_77 (by decide) (fun q => ?_) (fun q => ?_)
        · skip
          exact hc22 (cdT q e19)
        · skip
          exact hc23 (cdF q e19)
      exact GX_zretR hC c18 hR dX4_isAsTold_85 (oi h20)
    · skip
      have h24 := ifN q1 h16
      by_cases q2 : w3 = 3
      · skip
        have h25 := ifP q2 h24
        refine GX_tableIn hC 3 86 dX4_isAsTold_4 q2 (by decide) (by decide) rfl (by decide) ?_
        obtain ⟨c26, e27, h28⟩ := ob h25
        suffices hJ29 : GX Γ LAY 0 0 [some (.ref (gad Γ t)), some (.ref (gad Γ land1))] [.int (bI c26)] m2 124 by
          have hc30 : true = c26 → GX Γ LAY 0 0 [some (.ref (gad Γ t)), some (.ref (gad Γ land1))] [] m2 119 := by
            intro q
            subst q
            refine GX_iconst hC (bI true) dX4_isAsTold_119 rfl ?_
            refine GX_goto hC 124 dX4_isAsTold_120 (by decide) ?_
            exact hJ29
          have hc31 : false = c26 → GX Γ LAY 0 0 [some (.ref (gad Γ t)), some (.ref (gad Γ land1))] [] m2 123 := by
            intro q
            subst q
            refine GX_iconst hC (bI false) dX4_isAsTold_123 rfl ?_
            exact hJ29
          refine GX_aload_n hC dX4_isAsTold_86 rfl ?_
          refine GX_getI hC fkX4_18 (olMove ht) rfl dX4_isAsTold_87 ?_
          refine GX_aload_n hC dX4_isAsTold_90 rfl ?_
          refine GX_getI hC fkX4_21 (olMove ht) rfl dX4_isAsTold_91 ?_
          refine GX_icmp_eq_N hC 123 dX4_isAsTold_94 (by decide) (fun q => ?_) (fun q => ?_)
          · skip
            have h32 := ifP q e27
            refine GX_aload_n hC dX4_isAsTold_97 rfl ?_
            refine GX_getI hC fkX4_18 (olMove ht) rfl dX4_isAsTold_98 ?_
            refine GX_aload_n hC dX4_isAsTold_101 rfl ?_
            refine GX_getI hC fkX4_24 (olMove ht) rfl dX4_isAsTold_102 ?_
            refine GX_icmp_eq_N hC 123 dX4_isAsTold_105 (by decide) (fun q => ?_) (fun q => ?_)
            · skip
              have h33 := ifP q h32
              refine GX_aload_n hC dX4_isAsTold_108 rfl ?_
              refine GX_getI hC fkX4_21 (olMove ht) rfl dX4_isAsTold_109 ?_
              refine GX_aload_n hC dX4_isAsTold_112 rfl ?_
              refine GX_getI hC fkX4_24 (olMove ht) rfl dX4_isAsTold_113 ?_
              refine GX_icmp_eq_N hC 123 dX4_isAsTold_116 (by decide) (fun q => ?_) (fun q => ?_)
              · skip
                exact hc30 (cdT q h33)
              · skip
                exact hc31 (cdF q h33)
            · skip
              have h34 := ifN q h32
              exact hc31 (oi h34)
          · skip
            have h35 := ifN q e27
            exact hc31 (oi h35)
        exact GX_zretR hC c26 hR dX4_isAsTold_124 (oi h28)
      · skip
        have h36 := ifN q2 h24
        by_cases q3 : w3 = 4
        · skip
          have h37 := ifP q3 h36
          refine GX_tableIn hC 4 48 dX4_isAsTold_4 q3 (by decide) (by decide) rfl (by decide) ?_
          obtain ⟨c38, e39, h40⟩ := ob h37
          suffices hJ41 : GX Γ LAY 0 0 [some (.ref (gad Γ t)), some (.ref (gad Γ land1))] [.int (bI c38)] m2 68 by
            have hc42 : true = c38 → GX Γ LAY 0 0 [some (.ref (gad Γ t)), some (.ref (gad Γ land1))] [] m2 63 := by
              intro q
              subst q
              refine GX_iconst hC (bI true) dX4_isAsTold_63 rfl ?_
              refine GX_goto hC 68 dX4_isAsTold_64 (by decide) ?_
              exact hJ41
            have hc43 : false = c38 → GX Γ LAY 0 0 [some (.ref (gad Γ t)), some (.ref (gad Γ land1))] [] m2 67 := by
              intro q
              subst q
              refine GX_iconst hC (bI false) dX4_isAsTold_67 rfl ?_
              exact hJ41
            refine GX_aload_n hC dX4_isAsTold_48 rfl ?_
            refine GX_aload_n hC dX4_isAsTold_49 rfl ?_
            refine GX_getI hC fkX4_18 (olMove ht) rfl dX4_isAsTold_50 ?_
            obtain ⟨r44, e45, h46⟩ := ob e39
            refine GX_callV_i (st := []) hC (C_Land_ownerOf hp_land1 e45) okX2_ownerOf lkX4_36 (olLand hp_land1) rfl rfl (Nat.le_of_ble_eq_true rfl) (Nat.le_of_ble_eq_true rfl) hk rfl (Nat.le_of_ble_eq_true rfl) dX4_isAsTold_53 ?_
            refine GX_aload_n hC dX4_isAsTold_56 rfl ?_
            refine GX_getI hC fkX4_15 (olMove ht) rfl dX4_isAsTold_57 ?_
            refine GX_icmp_eq_N hC 67 dX4_isAsTold_60 (by decide) (fun q => ?_) (fun q => ?_)
            · skip
              exact hc42 (cdT q h46)
            · skip
              exact hc43 (cdF q h46)
          exact GX_zretR hC c38 hR dX4_isAsTold_68 (oi h40)
        · skip
          have h47 := ifN q3 h36
          by_cases q4 : w3 = 5
          · skip
            have h48 := ifP q4 h47
            refine GX_tableIn hC 5 125 dX4_isAsTold_4 q4 (by decide) (by decide) rfl (by decide) ?_
            obtain ⟨c49, e50, h51⟩ := ob h48
            suffices hJ52 : GX Γ LAY 0 0 [some (.ref (gad Γ t)), some (.ref (gad Γ land1))] [.int (bI c49)] m2 146 by
              have hc53 : true = c49 → GX Γ LAY 0 0 [some (.ref (gad Γ t)), some (.ref (gad Γ land1))] [] m2 141 := by
                intro q
                subst q
                refine GX_iconst hC (bI true) dX4_isAsTold_141 rfl ?_
                refine GX_goto hC 146 dX4_isAsTold_142 (by decide) ?_
                exact hJ52
              have hc54 : false = c49 → GX Γ LAY 0 0 [some (.ref (gad Γ t)), some (.ref (gad Γ land1))] [] m2 145 := by
                intro q
                subst q
                refine GX_iconst hC (bI false) dX4_isAsTold_145 rfl ?_
                exact hJ52
              refine GX_aload_n hC dX4_isAsTold_125 rfl ?_
              refine GX_aload_n hC dX4_isAsTold_126 rfl ?_
              refine GX_getI hC fkX4_18 (olMove ht) rfl dX4_isAsTold_127 ?_
              refine GX_aload_n hC dX4_isAsTold_130 rfl ?_
              refine GX_getI hC fkX4_21 (olMove ht) rfl dX4_isAsTold_131 ?_
              obtain ⟨r55, e56, h57⟩ := ob e50
              refine GX_callV_i (st := []) hC (C_Land_touchOf hp_land1 e56) okX2_touchOf lkX4_40 (olLand hp_land1) rfl rfl (Nat.le_of_ble_eq_true rfl) (Nat.le_of_ble_eq_true rfl) hk rfl (Nat.le_of_ble_eq_true rfl) dX4_isAsTold_134 ?_
              refine GX_iconst hC 1 dX4_isAsTold_137 rfl ?_
              refine GX_icmp_ne_N hC 145 dX4_isAsTold_138 (by decide) (fun q => ?_) (fun q => ?_)
              · skip
                exact hc53 (cdT q h57)
              · skip
                exact hc54 (cdF q h57)
            exact GX_zretR hC c49 hR dX4_isAsTold_146 (oi h51)
          · skip
            have h58 := ifN q4 h47
            by_cases q5 : w3 = 6
            · skip
              have h59 := ifP q5 h58
              refine GX_tableIn hC 6 168 dX4_isAsTold_4 q5 (by decide) (by decide) rfl (by decide) ?_
              refine GX_iconst hC (bI true) dX4_isAsTold_168 rfl ?_
              exact GX_zretR hC true hR dX4_isAsTold_169 (oi h59)
            · skip
              have h60 := ifN q5 h58
              by_cases q6 : w3 = 7
              · skip
                have h61 := ifP q6 h60
                refine GX_tableIn hC 7 147 dX4_isAsTold_4 q6 (by decide) (by decide) rfl (by decide) ?_
                obtain ⟨c62, e63, h64⟩ := ob h61
                suffices hJ65 : GX Γ LAY 0 0 [some (.ref (gad Γ t)), some (.ref (gad Γ land1))] [.int (bI c62)] m2 167 by
                  have hc66 : true = c62 → GX Γ LAY 0 0 [some (.ref (gad Γ t)), some (.ref (gad Γ land1))] [] m2 162 := by
                    intro q
                    subst q
                    refine GX_iconst hC (bI true) dX4_isAsTold_162 rfl ?_
                    refine GX_goto hC 167 dX4_isAsTold_163 (by decide) ?_
                    exact hJ65
                  have hc67 : false = c62 → GX Γ LAY 0 0 [some (.ref (gad Γ t)), some (.ref (gad Γ land1))] [] m2 166 := by
                    intro q
                    subst q
                    refine GX_iconst hC (bI false) dX4_isAsTold_166 rfl ?_
                    exact hJ65
                  refine GX_aload_n hC dX4_isAsTold_147 rfl ?_
                  refine GX_aload_n hC dX4_isAsTold_148 rfl ?_
                  refine GX_getI hC fkX4_18 (olMove ht) rfl dX4_isAsTold_149 ?_
                  obtain ⟨r68, e69, h70⟩ := ob e63
                  refine GX_callV_i (st := []) hC (C_Land_ownerOf hp_land1 e69) okX2_ownerOf lkX4_36 (olLand hp_land1) rfl rfl (Nat.le_of_ble_eq_true rfl) (Nat.le_of_ble_eq_true rfl) hk rfl (Nat.le_of_ble_eq_true rfl) dX4_isAsTold_152 ?_
                  refine GX_aload_n hC dX4_isAsTold_155 rfl ?_
                  refine GX_getI hC fkX4_15 (olMove ht) rfl dX4_isAsTold_156 ?_
                  refine GX_icmp_ne_N hC 166 dX4_isAsTold_159 (by decide) (fun q => ?_) (fun q => ?_)
                  · skip
                    exact hc66 (cdT q h70)
                  · skip
                    exact hc67 (cdF q h70)
                exact GX_zretR hC c62 hR dX4_isAsTold_167 (oi h64)
              · skip
                have h71 := ifN q6 h60
                refine GX_tableOut hC 168 dX4_isAsTold_4 (by have n0 := sw_ne q0 (z := 1) rfl; have n1 := sw_ne q1 (z := 2) rfl; have n2 := sw_ne q2 (z := 3) rfl; have n3 := sw_ne q3 (z := 4) rfl; have n4 := sw_ne q4 (z := 5) rfl; have n5 := sw_ne q5 (z := 6) rfl; have n6 := sw_ne q6 (z := 7) rfl; omega) (by decide) ?_
                refine GX_iconst hC (bI true) dX4_isAsTold_168 rfl ?_
                exact GX_zretR hC true hR dX4_isAsTold_169 (oi h71)
set_option maxRecDepth 100000 in
set_option maxHeartbeats 4000000 in
theorem C_Move_isThere {l : Launch} {t : Nat} {land1 : Nat} {m2 : MI} {r0 : Bool} (ht : isMove t) (hp_land1 : isLand land1) (hf : Move_isThere t land1 m2 = some r0) : Cn l yX4_isThere cX4_isThere 3 (some .boolean) 1 LAY (fun ad => .ref (ad t) :: [.ref (ad land1)]) m2 (fun _ => some (.int (bI r0))) m2 := by
  refine Cn.of (fun ad => [some (.ref (ad t)), some (.ref (ad land1)), none]) (by decide +kernel) (fun _ => rfl) (fun _ => Nat.le_of_ble_eq_true rfl) (fun Γ hl hC hR hk => ?_)
  subst hl
  replace hC : CX Γ cX4_isThere RX4 LAY 1 3 := hC
  dsimp only [Move_isThere] at hf
  obtain ⟨c3, e4, h5⟩ := ob hf
  have hc6 : true = c3 → GX Γ LAY 0 0 [some (.ref (gad Γ t)), some (.ref (gad Γ land1)), none] [] m2 22 := by
    intro q
    have h7 := ifT q.symm h5
    refine GX_iconst hC (bI false) dX4_isThere_22 rfl ?_
    exact GX_zretR hC false hR dX4_isThere_23 (oi h7)
  have hc8 : false = c3 → GX Γ LAY 0 0 [some (.ref (gad Γ t)), some (.ref (gad Γ land1)), none] [] m2 24 := by
    intro q
    have h9 := ifF q.symm h5
    obtain ⟨c10, e11, h12⟩ := ob h9
    suffices hJ13 : GX Γ LAY 0 0 [some (.ref (gad Γ t)), some (.ref (gad Γ land1)), none] [.int (bI c10)] m2 53 by
      have hc14 : true = c10 → GX Γ LAY 0 0 [some (.ref (gad Γ t)), some (.ref (gad Γ land1)), none] [] m2 48 := by
        intro q
        subst q
        refine GX_iconst hC (bI true) dX4_isThere_48 rfl ?_
        refine GX_goto hC 53 dX4_isThere_49 (by decide) ?_
        exact hJ13
      have hc15 : false = c10 → GX Γ LAY 0 0 [some (.ref (gad Γ t)), some (.ref (gad Γ land1)), none] [] m2 52 := by
        intro q
        subst q
        refine GX_iconst hC (bI false) dX4_isThere_52 rfl ?_
        exact hJ13
      refine GX_aload_n hC dX4_isThere_24 rfl ?_
      refine GX_getI hC fkX4_9 (olMove ht) rfl dX4_isThere_25 ?_
      refine GX_iconst hC 2 dX4_isThere_28 rfl ?_
      refine GX_icmp_eq_P hC 48 dX4_isThere_29 (by decide) (fun q => ?_) (fun q => ?_)
      · skip
        have h16 := ifP q e11
        exact hc14 (oi h16)
      · skip
        have h17 := ifN q e11
        refine GX_aload_n hC dX4_isThere_32 rfl ?_
        refine GX_getI hC fkX4_9 (olMove ht) rfl dX4_isThere_33 ?_
        refine GX_iconst hC 3 dX4_isThere_36 rfl ?_
        refine GX_icmp_eq_P hC 48 dX4_isThere_37 (by decide) (fun q => ?_) (fun q => ?_)
        · skip
          have h18 := ifP q h17
          exact hc14 (oi h18)
        · skip
          have h19 := ifN q h17
          refine GX_aload_n hC dX4_isThere_40 rfl ?_
          refine GX_getI hC fkX4_9 (olMove ht) rfl dX4_isThere_41 ?_
          refine GX_iconst hC 5 dX4_isThere_44 rfl ?_
          refine GX_icmp_ne_N hC 52 dX4_isThere_45 (by decide) (fun q => ?_) (fun q => ?_)
          · skip
            exact hc14 (cdT q h19)
          · skip
            exact hc15 (cdF q h19)
    refine GX_istore_n hC [some (.ref (gad Γ t)), some (.ref (gad Γ land1)), some (.int (bI c10))] dX4_isThere_53 (by decide) rfl rfl ?_
    obtain ⟨c20, e21, h22⟩ := ob h12
    have hc23 : true = c20 → GX Γ LAY 0 0 [some (.ref (gad Γ t)), some (.ref (gad Γ land1)), some (.int (bI c10))] [] m2 69 := by
      intro q
      have h24 := ifT q.symm h22
      refine GX_iconst hC (bI false) dX4_isThere_69 rfl ?_
      exact GX_zretR hC false hR dX4_isThere_70 (oi h24)
    have hc25 : false = c20 → GX Γ LAY 0 0 [some (.ref (gad Γ t)), some (.ref (gad Γ land1)), some (.int (bI c10))] [] m2 71 := by
      intro q
      have h26 := ifF q.symm h22
      obtain ⟨c27, e28, h29⟩ := ob h26
      suffices hJ30 : GX Γ LAY 0 0 [some (.ref (gad Γ t)), some (.ref (gad Γ land1)), some (.int (bI c10))] [.int (bI c27)] m2 95 by
        have hc31 : true = c27 → GX Γ LAY 0 0 [some (.ref (gad Γ t)), some (.ref (gad Γ land1)), some (.int (bI c10))] [] m2 90 := by
          intro q
          subst q
          refine GX_iconst hC (bI true) dX4_isThere_90 rfl ?_
          refine GX_goto hC 95 dX4_isThere_91 (by decide) ?_
          exact hJ30
        have hc32 : false = c27 → GX Γ LAY 0 0 [some (.ref (gad Γ t)), some (.ref (gad Γ land1)), some (.int (bI c10))] [] m2 94 := by
          intro q
          subst q
          refine GX_iconst hC (bI false) dX4_isThere_94 rfl ?_
          exact hJ30
        refine GX_aload_n hC dX4_isThere_71 rfl ?_
        refine GX_getI hC fkX4_9 (olMove ht) rfl dX4_isThere_72 ?_
        refine GX_iconst hC 3 dX4_isThere_75 rfl ?_
        refine GX_icmp_ne_P hC 90 dX4_isThere_76 (by decide) (fun q => ?_) (fun q => ?_)
        · skip
          have h33 := ifP q e28
          exact hc31 (oi h33)
        · skip
          have h34 := ifN q e28
          refine GX_aload_n hC dX4_isThere_79 rfl ?_
          refine GX_aload_n hC dX4_isThere_80 rfl ?_
          refine GX_getI hC fkX4_24 (olMove ht) rfl dX4_isThere_81 ?_
          obtain ⟨b35, e36, h37⟩ := ob h34
          refine GX_callV_i (st := []) hC (C_Land_isField hp_land1 e36) okX2_isField lkX4_33 (olLand hp_land1) rfl rfl (Nat.le_of_ble_eq_true rfl) (Nat.le_of_ble_eq_true rfl) hk rfl (Nat.le_of_ble_eq_true rfl) dX4_isThere_84 ?_
          refine GX_ifb_eq hC 94 dX4_isThere_87 (by decide) (fun q => ?_) (fun q => ?_)
          · skip
            exact hc31 (cbT q h37)
          · skip
            exact hc32 (cbF q h37)
      exact GX_zretR hC c27 hR dX4_isThere_95 (oi h29)
    refine GX_iload_n hC dX4_isThere_54 rfl ?_
    refine GX_ifb_eq hC 71 dX4_isThere_55 (by decide) (fun q => ?_) (fun q => ?_)
    · skip
      have h38 := ifT q e21
      refine GX_aload_n hC dX4_isThere_58 rfl ?_
      refine GX_aload_n hC dX4_isThere_59 rfl ?_
      refine GX_getI hC fkX4_21 (olMove ht) rfl dX4_isThere_60 ?_
      obtain ⟨b39, e40, h41⟩ := ob h38
      refine GX_callV_i (st := []) hC (C_Land_isField hp_land1 e40) okX2_isField lkX4_33 (olLand hp_land1) rfl rfl (Nat.le_of_ble_eq_true rfl) (Nat.le_of_ble_eq_true rfl) hk rfl (Nat.le_of_ble_eq_true rfl) dX4_isThere_63 ?_
      refine GX_ifb_ne hC 71 dX4_isThere_66 (by decide) (fun q => ?_) (fun q => ?_)
      · skip
        exact hc25 (cbnT q h41)
      · skip
        exact hc23 (cbnF q h41)
    · skip
      have h42 := ifF q e21
      exact hc25 (oi h42)
  refine GX_aload_n hC dX4_isThere_0 rfl ?_
  refine GX_aload_n hC dX4_isThere_1 rfl ?_
  refine GX_getI hC fkX4_15 (olMove ht) rfl dX4_isThere_2 ?_
  obtain ⟨b43, e44, h45⟩ := ob e4
  refine GX_callV_i (st := []) hC (C_Land_isPerson hp_land1 e44) okX2_isPerson lkX4_27 (olLand hp_land1) rfl rfl (Nat.le_of_ble_eq_true rfl) (Nat.le_of_ble_eq_true rfl) hk rfl (Nat.le_of_ble_eq_true rfl) dX4_isThere_5 ?_
  refine GX_ifb_eq hC 22 dX4_isThere_8 (by decide) (fun q => ?_) (fun q => ?_)
  · skip
    have h46 := ifT q h45
    refine GX_aload_n hC dX4_isThere_11 rfl ?_
    refine GX_aload_n hC dX4_isThere_12 rfl ?_
    refine GX_getI hC fkX4_18 (olMove ht) rfl dX4_isThere_13 ?_
    obtain ⟨b47, e48, h49⟩ := ob h46
    refine GX_callV_i (st := []) hC (C_Land_isField hp_land1 e48) okX2_isField lkX4_33 (olLand hp_land1) rfl rfl (Nat.le_of_ble_eq_true rfl) (Nat.le_of_ble_eq_true rfl) hk rfl (Nat.le_of_ble_eq_true rfl) dX4_isThere_16 ?_
    refine GX_ifb_ne hC 24 dX4_isThere_19 (by decide) (fun q => ?_) (fun q => ?_)
    · skip
      exact hc8 (cbnT q h49)
    · skip
      exact hc6 (cbnF q h49)
  · skip
    have h50 := ifF q h45
    exact hc6 (oi h50)
set_option maxRecDepth 100000 in
set_option maxHeartbeats 4000000 in
theorem C_Move_become {l : Launch} {t : Nat} {k1 : Int32} {wfog2 : Int32} {m3 : MI} {mr : MI} (ht : isMove t) (hf : Move_become t k1 wfog2 m3 = some mr) : Cn l yX4_become cX4_become 3 none 0 LAY (fun ad => .ref (ad t) :: [.int k1, .int wfog2]) m3 (fun _ => none) mr := by
  refine Cn.of (fun ad => [some (.ref (ad t)), some (.int k1), some (.int wfog2)]) (by decide +kernel) (fun _ => rfl) (fun _ => Nat.le_of_ble_eq_true rfl) (fun Γ hl hC hR hk => ?_)
  subst hl
  replace hC : CX Γ cX4_become RX4 LAY 0 3 := hC
  dsimp only [Move_become] at hf
  refine GX_aload_n hC dX4_become_0 rfl ?_
  refine GX_iload_n hC dX4_become_1 rfl ?_
  obtain ⟨m4, e5, h6⟩ := ob hf
  refine GX_stF hC e5 fkX4_9 ftX4_0 (olMove ht) rfl dX4_become_2 ?_
  refine GX_aload_n hC dX4_become_5 rfl ?_
  refine GX_iload_n hC dX4_become_6 rfl ?_
  refine GX_sipush hC 1000 dX4_become_7 rfl ?_
  refine GX_idiv hC dX4_become_10 (by decide) ?_
  refine GX_bipush hC 10 dX4_become_11 rfl ?_
  refine GX_irem hC dX4_become_13 (by decide) ?_
  obtain ⟨m7, e8, h9⟩ := ob h6
  refine GX_stF hC e8 fkX4_15 ftX4_1 (olMove ht) rfl dX4_become_14 ?_
  refine GX_aload_n hC dX4_become_17 rfl ?_
  refine GX_iload_n hC dX4_become_18 rfl ?_
  refine GX_bipush hC 100 dX4_become_19 rfl ?_
  refine GX_idiv hC dX4_become_21 (by decide) ?_
  refine GX_bipush hC 10 dX4_become_22 rfl ?_
  refine GX_irem hC dX4_become_24 (by decide) ?_
  obtain ⟨m10, e11, h12⟩ := ob h9
  refine GX_stF hC e11 fkX4_18 ftX4_2 (olMove ht) rfl dX4_become_25 ?_
  refine GX_aload_n hC dX4_become_28 rfl ?_
  refine GX_iload_n hC dX4_become_29 rfl ?_
  refine GX_bipush hC 10 dX4_become_30 rfl ?_
  refine GX_idiv hC dX4_become_32 (by decide) ?_
  refine GX_bipush hC 10 dX4_become_33 rfl ?_
  refine GX_irem hC dX4_become_35 (by decide) ?_
  obtain ⟨m13, e14, h15⟩ := ob h12
  refine GX_stF hC e14 fkX4_21 ftX4_3 (olMove ht) rfl dX4_become_36 ?_
  refine GX_aload_n hC dX4_become_39 rfl ?_
  refine GX_iload_n hC dX4_become_40 rfl ?_
  refine GX_bipush hC 10 dX4_become_41 rfl ?_
  refine GX_irem hC dX4_become_43 (by decide) ?_
  obtain ⟨m16, e17, h18⟩ := ob h15
  refine GX_stF hC e17 fkX4_24 ftX4_4 (olMove ht) rfl dX4_become_44 ?_
  exact GX_vretW hC hR dX4_become_47 (oi h18)
set_option maxRecDepth 100000 in
set_option maxHeartbeats 4000000 in
theorem C_Move_feeAsked {l : Launch} {t : Nat} {m1 : MI} {r0 : Int32} (ht : isMove t) (hf : Move_feeAsked t m1 = some r0) : Cn l yX4_feeAsked cX4_feeAsked 3 (some .int) 0 LAY (fun ad => .ref (ad t) :: []) m1 (fun _ => some (.int r0)) m1 := by
  refine Cn.of (fun ad => [some (.ref (ad t)), none, none]) (by decide +kernel) (fun _ => rfl) (fun _ => Nat.le_of_ble_eq_true rfl) (fun Γ hl hC hR hk => ?_)
  subst hl
  replace hC : CX Γ cX4_feeAsked RX4 LAY 0 3 := hC
  dsimp only [Move_feeAsked] at hf
  refine GX_iconst hC 2 dX4_feeAsked_0 rfl ?_
  refine GX_aload_n hC dX4_feeAsked_1 rfl ?_
  refine GX_getI hC fkX4_24 (olMove ht) rfl dX4_feeAsked_2 ?_
  refine GX_iadd hC dX4_feeAsked_5 ?_
  obtain ⟨ofBuy2, e3, h4⟩ := ob hf
  refine GX_nm (oi e3) ?_
  refine GX_istore_n hC [some (.ref (gad Γ t)), some (.int ofBuy2), none] dX4_feeAsked_6 (by decide) rfl rfl ?_
  refine GX_bipush hC 6 dX4_feeAsked_7 rfl ?_
  refine GX_istore_n hC [some (.ref (gad Γ t)), some (.int ofBuy2), some (.int 6)] dX4_feeAsked_9 (by decide) rfl rfl ?_
  refine GX_aload_n hC dX4_feeAsked_10 rfl ?_
  refine GX_getI hC fkX4_9 (olMove ht) rfl dX4_feeAsked_11 ?_
  obtain ⟨w5, e6, h7⟩ := ob h4
  refine GX_nm (oi e6) ?_
  by_cases q0 : w5 = 1
  · skip
    have h8 := ifP q0 h7
    refine GX_tableIn hC 1 56 dX4_feeAsked_14 q0 (by decide) (by decide) rfl (by decide) ?_
    refine GX_iload_n hC dX4_feeAsked_56 rfl ?_
    exact GX_iretR hC hR dX4_feeAsked_57 (oi h8)
  · skip
    have h9 := ifN q0 h7
    by_cases q1 : w5 = 2
    · skip
      have h10 := ifP q1 h9
      refine GX_tableIn hC 2 58 dX4_feeAsked_14 q1 (by decide) (by decide) rfl (by decide) ?_
      refine GX_iload_n hC dX4_feeAsked_58 rfl ?_
      exact GX_iretR hC hR dX4_feeAsked_59 (oi h10)
    · skip
      have h11 := ifN q1 h9
      by_cases q2 : w5 = 3
      · skip
        have h12 := ifP q2 h11
        refine GX_tableIn hC 3 60 dX4_feeAsked_14 q2 (by decide) (by decide) rfl (by decide) ?_
        refine GX_iload_n hC dX4_feeAsked_60 rfl ?_
        refine GX_iconst hC 1 dX4_feeAsked_61 rfl ?_
        refine GX_iadd hC dX4_feeAsked_62 ?_
        exact GX_iretR hC hR dX4_feeAsked_63 (oi h12)
      · skip
        have h13 := ifN q2 h11
        by_cases q3 : w5 = 4
        · skip
          have h14 := ifP q3 h13
          refine GX_tableIn hC 4 64 dX4_feeAsked_14 q3 (by decide) (by decide) rfl (by decide) ?_
          refine GX_iconst hC 2 dX4_feeAsked_64 rfl ?_
          refine GX_iload_n hC dX4_feeAsked_65 rfl ?_
          refine GX_imul hC dX4_feeAsked_66 ?_
          exact GX_iretR hC hR dX4_feeAsked_67 (oi h14)
        · skip
          have h15 := ifN q3 h13
          by_cases q4 : w5 = 5
          · skip
            have h16 := ifP q4 h15
            refine GX_tableIn hC 5 68 dX4_feeAsked_14 q4 (by decide) (by decide) rfl (by decide) ?_
            refine GX_bipush hC 9 dX4_feeAsked_68 rfl ?_
            exact GX_iretR hC hR dX4_feeAsked_70 (oi h16)
          · skip
            have h17 := ifN q4 h15
            by_cases q5 : w5 = 6
            · skip
              have h18 := ifP q5 h17
              refine GX_tableIn hC 6 71 dX4_feeAsked_14 q5 (by decide) (by decide) rfl (by decide) ?_
              refine GX_iconst hC 0 dX4_feeAsked_71 rfl ?_
              exact GX_iretR hC hR dX4_feeAsked_72 (oi h18)
            · skip
              have h19 := ifN q5 h17
              by_cases q6 : w5 = 7
              · skip
                have h20 := ifP q6 h19
                refine GX_tableIn hC 7 73 dX4_feeAsked_14 q6 (by decide) (by decide) rfl (by decide) ?_
                refine GX_iload_n hC dX4_feeAsked_73 rfl ?_
                refine GX_aload_n hC dX4_feeAsked_74 rfl ?_
                refine GX_getI hC fkX4_24 (olMove ht) rfl dX4_feeAsked_75 ?_
                refine GX_isub hC dX4_feeAsked_78 ?_
                exact GX_iretR hC hR dX4_feeAsked_79 (oi h20)
              · skip
                have h21 := ifN q6 h19
                refine GX_tableOut hC 80 dX4_feeAsked_14 (by have n0 := sw_ne q0 (z := 1) rfl; have n1 := sw_ne q1 (z := 2) rfl; have n2 := sw_ne q2 (z := 3) rfl; have n3 := sw_ne q3 (z := 4) rfl; have n4 := sw_ne q4 (z := 5) rfl; have n5 := sw_ne q5 (z := 6) rfl; have n6 := sw_ne q6 (z := 7) rfl; omega) (by decide) ?_
                refine GX_iconst hC 2 dX4_feeAsked_80 rfl ?_
                exact GX_iretR hC hR dX4_feeAsked_81 (oi h21)
set_option maxRecDepth 100000 in
set_option maxHeartbeats 4000000 in
theorem C_Move_failureNumber {l : Launch} {t : Nat} {m1 : MI} {r0 : Int32} (ht : isMove t) (hf : Move_failureNumber t m1 = some r0) : Cn l yX4_failureNumber cX4_failureNumber 1 (some .int) 1 LAY (fun ad => .ref (ad t) :: []) m1 (fun _ => some (.int r0)) m1 := by
  refine Cn.of (fun ad => [some (.ref (ad t))]) (by decide +kernel) (fun _ => rfl) (fun _ => Nat.le_of_ble_eq_true rfl) (fun Γ hl hC hR hk => ?_)
  subst hl
  replace hC : CX Γ cX4_failureNumber RX4 LAY 1 1 := hC
  dsimp only [Move_failureNumber] at hf
  refine GX_aload_n hC dX4_failureNumber_0 rfl ?_
  refine GX_getI hC fkX4_9 (olMove ht) rfl dX4_failureNumber_1 ?_
  refine GX_bipush hC 7 dX4_failureNumber_4 rfl ?_
  refine GX_icmp_ne_N hC 18 dX4_failureNumber_6 (by decide) (fun q => ?_) (fun q => ?_)
  · skip
    have h2 := ifP q hf
    refine GX_sipush hC 200 dX4_failureNumber_9 rfl ?_
    refine GX_aload_n hC dX4_failureNumber_12 rfl ?_
    obtain ⟨r3, e4, h5⟩ := ob h2
    refine GX_callV_i (st := [.int 200]) hC (C_Move_feeAsked ht e4) okX4_feeAsked lkX4_77 (olMove ht) rfl rfl (Nat.le_of_ble_eq_true rfl) (Nat.le_of_ble_eq_true rfl) hk rfl (Nat.le_of_ble_eq_true rfl) dX4_failureNumber_13 ?_
    refine GX_iadd hC dX4_failureNumber_16 ?_
    exact GX_iretR hC hR dX4_failureNumber_17 (oi h5)
  · skip
    have h6 := ifN q hf
    obtain ⟨x7, e8, h9⟩ := ob h6
    suffices hJ10 : GX Γ LAY 0 0 [some (.ref (gad Γ t))] [.int x7] m1 40 by
      refine GX_aload_n hC dX4_failureNumber_18 rfl ?_
      refine GX_getI hC fkX4_9 (olMove ht) rfl dX4_failureNumber_19 ?_
      refine GX_iconst hC 3 dX4_failureNumber_22 rfl ?_
      refine GX_icmp_ne_N hC 36 dX4_failureNumber_23 (by decide) (fun q => ?_) (fun q => ?_)
      · skip
        have h11 := ifP q e8
        refine GX_aload_n hC dX4_failureNumber_26 rfl ?_
        refine GX_getI hC fkX4_24 (olMove ht) rfl dX4_failureNumber_27 ?_
        refine GX_bipush hC 100 dX4_failureNumber_30 rfl ?_
        refine GX_iadd hC dX4_failureNumber_32 ?_
        refine GX_goto hC 40 dX4_failureNumber_33 (by decide) ?_
        exact GX_nm (oi h11) hJ10
      · skip
        have h12 := ifN q e8
        refine GX_aload_n hC dX4_failureNumber_36 rfl ?_
        refine GX_getI hC fkX4_24 (olMove ht) rfl dX4_failureNumber_37 ?_
        exact GX_nm (oi h12) hJ10
    exact GX_iretR hC hR dX4_failureNumber_40 (oi h9)
