set_option maxRecDepth 100000 in
set_option maxHeartbeats 4000000 in
theorem C_LandReader_carryOutLaw {l : Launch} {land1 : Nat} {m2 : MI} {r0 : Bool} {mr : MI} (hp_land1 : isLand land1) (hf : LandReader_carryOutLaw land1 m2 = some (r0, mr)) : Cn l yX3_carryOutLaw cX3_carryOutLaw 2 (some .boolean) 1 LAY (fun ad => .ref (ad 23) :: [.ref (ad land1)]) m2 (fun _ => some (.int (bI r0))) mr := by
  refine Cn.of (fun ad => [some (.ref (ad 23)), some (.ref (ad land1))]) (by decide +kernel) (fun _ => rfl) (fun _ => Nat.le_of_ble_eq_true rfl) (fun Γ hl hC hR hk => ?_)
  subst hl
  replace hC : CX Γ cX3_carryOutLaw RX3 LAY 1 2 := hC
  dsimp only [LandReader_carryOutLaw] at hf
  obtain ⟨c3, e4, h5⟩ := ob hf
  have hc6 : true = c3 → GX Γ LAY 0 0 [some (.ref (gad Γ 23)), some (.ref (gad Γ land1))] [] m2 16 := by
    intro q
    have h7 := ifT q.symm h5
    refine GX_iconst hC (bI false) dX3_carryOutLaw_16 rfl ?_
    exact GX_zretW hC false hR dX3_carryOutLaw_17 (oi h7)
  have hc8 : false = c3 → GX Γ LAY 0 0 [some (.ref (gad Γ 23)), some (.ref (gad Γ land1))] [] m2 18 := by
    intro q
    have h9 := ifF q.symm h5
    refine GX_aload_n hC dX3_carryOutLaw_18 rfl ?_
    refine GX_iconst hC 0 dX3_carryOutLaw_19 rfl ?_
    obtain ⟨c10, e11, h12⟩ := ob h9
    suffices hJ13 : GX Γ LAY 0 0 [some (.ref (gad Γ 23)), some (.ref (gad Γ land1))] [.int (bI c10), .int 0, .ref (gad Γ land1)] m2 33 by
      have hc14 : true = c10 → GX Γ LAY 0 0 [some (.ref (gad Γ 23)), some (.ref (gad Γ land1))] [.int 0, .ref (gad Γ land1)] m2 28 := by
        intro q
        subst q
        refine GX_iconst hC (bI true) dX3_carryOutLaw_28 rfl ?_
        refine GX_goto hC 33 dX3_carryOutLaw_29 (by decide) ?_
        exact hJ13
      have hc15 : false = c10 → GX Γ LAY 0 0 [some (.ref (gad Γ 23)), some (.ref (gad Γ land1))] [.int 0, .ref (gad Γ land1)] m2 32 := by
        intro q
        subst q
        refine GX_iconst hC (bI false) dX3_carryOutLaw_32 rfl ?_
        exact hJ13
      refine GX_aload_n hC dX3_carryOutLaw_20 rfl ?_
      refine GX_getI hC fkX3_18 ol_23 rfl dX3_carryOutLaw_21 ?_
      refine GX_iconst hC 1 dX3_carryOutLaw_24 rfl ?_
      refine GX_icmp_ne_N hC 32 dX3_carryOutLaw_25 (by decide) (fun q => ?_) (fun q => ?_)
      · skip
        exact hc14 (cdT q e11)
      · skip
        exact hc15 (cdF q e11)
    obtain ⟨m16, e17, h18⟩ := ob h12
    refine GX_callV_v (st := []) hC (C_Land_setLaw hp_land1 e17) okX2_setLaw lkX3_102 (olLand hp_land1) rfl rfl (Nat.le_of_ble_eq_true rfl) (Nat.le_of_ble_eq_true rfl) hk rfl (Nat.le_of_ble_eq_true rfl) dX3_carryOutLaw_33 ?_
    refine GX_aload_n hC dX3_carryOutLaw_36 rfl ?_
    refine GX_iconst hC 1 dX3_carryOutLaw_37 rfl ?_
    obtain ⟨c19, e20, h21⟩ := ob h18
    suffices hJ22 : GX Γ LAY 0 0 [some (.ref (gad Γ 23)), some (.ref (gad Γ land1))] [.int (bI c19), .int 1, .ref (gad Γ land1)] m16 51 by
      have hc23 : true = c19 → GX Γ LAY 0 0 [some (.ref (gad Γ 23)), some (.ref (gad Γ land1))] [.int 1, .ref (gad Γ land1)] m16 46 := by
        intro q
        subst q
        refine GX_iconst hC (bI true) dX3_carryOutLaw_46 rfl ?_
        refine GX_goto hC 51 dX3_carryOutLaw_47 (by decide) ?_
        exact hJ22
      have hc24 : false = c19 → GX Γ LAY 0 0 [some (.ref (gad Γ 23)), some (.ref (gad Γ land1))] [.int 1, .ref (gad Γ land1)] m16 50 := by
        intro q
        subst q
        refine GX_iconst hC (bI false) dX3_carryOutLaw_50 rfl ?_
        exact hJ22
      refine GX_aload_n hC dX3_carryOutLaw_38 rfl ?_
      refine GX_getI hC fkX3_21 ol_23 rfl dX3_carryOutLaw_39 ?_
      refine GX_iconst hC 1 dX3_carryOutLaw_42 rfl ?_
      refine GX_icmp_ne_N hC 50 dX3_carryOutLaw_43 (by decide) (fun q => ?_) (fun q => ?_)
      · skip
        exact hc23 (cdT q e20)
      · skip
        exact hc24 (cdF q e20)
    obtain ⟨m25, e26, h27⟩ := ob h21
    refine GX_callV_v (st := []) hC (C_Land_setLaw hp_land1 e26) okX2_setLaw lkX3_102 (olLand hp_land1) rfl rfl (Nat.le_of_ble_eq_true rfl) (Nat.le_of_ble_eq_true rfl) hk rfl (Nat.le_of_ble_eq_true rfl) dX3_carryOutLaw_51 ?_
    refine GX_iconst hC (bI true) dX3_carryOutLaw_54 rfl ?_
    exact GX_zretW hC true hR dX3_carryOutLaw_55 (oi h27)
  refine GX_aload_n hC dX3_carryOutLaw_0 rfl ?_
  refine GX_getI hC fkX3_18 ol_23 rfl dX3_carryOutLaw_1 ?_
  refine GX_iconst hC 1 dX3_carryOutLaw_4 rfl ?_
  refine GX_icmp_gt_P hC 16 dX3_carryOutLaw_5 (by decide) (fun q => ?_) (fun q => ?_)
  · skip
    have h28 := ifP q e4
    exact hc6 (oi h28)
  · skip
    have h29 := ifN q e4
    refine GX_aload_n hC dX3_carryOutLaw_8 rfl ?_
    refine GX_getI hC fkX3_21 ol_23 rfl dX3_carryOutLaw_9 ?_
    refine GX_iconst hC 1 dX3_carryOutLaw_12 rfl ?_
    refine GX_icmp_le_N hC 18 dX3_carryOutLaw_13 (by decide) (fun q => ?_) (fun q => ?_)
    · skip
      exact hc6 (cdT q h29)
    · skip
      exact hc8 (cdF q h29)
set_option maxRecDepth 100000 in
set_option maxHeartbeats 4000000 in
theorem C_LandReader_carryOutPerson {l : Launch} {land1 : Nat} {m2 : MI} {r0 : Bool} {mr : MI} (hp_land1 : isLand land1) (hf : LandReader_carryOutPerson land1 m2 = some (r0, mr)) : Cn l yX3_carryOutPerson cX3_carryOutPerson 2 (some .boolean) 3 LAY (fun ad => .ref (ad 23) :: [.ref (ad land1)]) m2 (fun _ => some (.int (bI r0))) mr := by
  refine Cn.of (fun ad => [some (.ref (ad 23)), some (.ref (ad land1))]) (by decide +kernel) (fun _ => rfl) (fun _ => Nat.le_of_ble_eq_true rfl) (fun Γ hl hC hR hk => ?_)
  subst hl
  replace hC : CX Γ cX3_carryOutPerson RX3 LAY 3 2 := hC
  dsimp only [LandReader_carryOutPerson] at hf
  refine GX_aload_n hC dX3_carryOutPerson_0 rfl ?_
  obtain ⟨b3, e4, h5⟩ := ob hf
  refine GX_ldZ hC e4 fkX3_27 ol_23 rfl dX3_carryOutPerson_1 ?_
  refine GX_ifb_ne hC 18 dX3_carryOutPerson_4 (by decide) (fun q => ?_) (fun q => ?_)
  · skip
    have h6 := ifT q h5
    obtain ⟨⟨c7, m8⟩, e9, h10⟩ := ob h6
    suffices hJ11 : GX Γ LAY 0 0 [some (.ref (gad Γ 23)), some (.ref (gad Γ land1))] [.int (bI c7)] m8 49 by
      have hc12 : ∀ m13 : MI, (true, m13) = (c7, m8) → GX Γ LAY 0 0 [some (.ref (gad Γ 23)), some (.ref (gad Γ land1))] [] m13 44 := by
        intro m13 q
        cases q
        refine GX_iconst hC (bI true) dX3_carryOutPerson_44 rfl ?_
        refine GX_goto hC 49 dX3_carryOutPerson_45 (by decide) ?_
        exact hJ11
      have hc14 : ∀ m15 : MI, (false, m15) = (c7, m8) → GX Γ LAY 0 0 [some (.ref (gad Γ 23)), some (.ref (gad Γ land1))] [] m15 48 := by
        intro m15 q
        cases q
        refine GX_iconst hC (bI false) dX3_carryOutPerson_48 rfl ?_
        exact hJ11
      refine GX_aload_n hC dX3_carryOutPerson_18 rfl ?_
      refine GX_aload_n hC dX3_carryOutPerson_19 rfl ?_
      refine GX_getI hC fkX3_18 ol_23 rfl dX3_carryOutPerson_20 ?_
      obtain ⟨b16, e17, h18⟩ := ob e9
      refine GX_callV_i (st := []) hC (C_Land_isPerson hp_land1 e17) okX2_isPerson lkX3_89 (olLand hp_land1) rfl rfl (Nat.le_of_ble_eq_true rfl) (Nat.le_of_ble_eq_true rfl) hk rfl (Nat.le_of_ble_eq_true rfl) dX3_carryOutPerson_23 ?_
      refine GX_ifb_eq hC 48 dX3_carryOutPerson_26 (by decide) (fun q => ?_) (fun q => ?_)
      · skip
        have h19 := ifT q h18
        refine GX_aload_n hC dX3_carryOutPerson_29 rfl ?_
        refine GX_aload_n hC dX3_carryOutPerson_30 rfl ?_
        refine GX_getI hC fkX3_24 ol_23 rfl dX3_carryOutPerson_31 ?_
        refine GX_aload_n hC dX3_carryOutPerson_34 rfl ?_
        refine GX_getI hC fkX3_18 ol_23 rfl dX3_carryOutPerson_35 ?_
        obtain ⟨⟨b20, m21⟩, e22, h23⟩ := ob h19
        refine GX_callV_i (st := []) hC (C_Land_addPerson hp_land1 e22) okX2_addPerson lkX3_99 (olLand hp_land1) rfl rfl (Nat.le_of_ble_eq_true rfl) (Nat.le_of_ble_eq_true rfl) hk rfl (Nat.le_of_ble_eq_true rfl) dX3_carryOutPerson_38 ?_
        refine GX_ifb_eq hC 48 dX3_carryOutPerson_41 (by decide) (fun q => ?_) (fun q => ?_)
        · skip
          exact hc12 _ (mbT q h23)
        · skip
          exact hc14 _ (mbF q h23)
      · skip
        have h24 := ifF q h18
        exact hc14 _ (oi h24)
    exact GX_zretW hC c7 hR dX3_carryOutPerson_49 (oi h10)
  · skip
    have h25 := ifF q h5
    refine GX_aload_n hC dX3_carryOutPerson_7 rfl ?_
    refine GX_aload_n hC dX3_carryOutPerson_8 rfl ?_
    refine GX_getI hC fkX3_24 ol_23 rfl dX3_carryOutPerson_9 ?_
    refine GX_bipush hC 9 dX3_carryOutPerson_12 rfl ?_
    obtain ⟨⟨b26, m27⟩, e28, h29⟩ := ob h25
    refine GX_callV_i (st := []) hC (C_Land_addPerson hp_land1 e28) okX2_addPerson lkX3_99 (olLand hp_land1) rfl rfl (Nat.le_of_ble_eq_true rfl) (Nat.le_of_ble_eq_true rfl) hk rfl (Nat.le_of_ble_eq_true rfl) dX3_carryOutPerson_14 ?_
    exact GX_zretW hC b26 hR dX3_carryOutPerson_17 (oi h29)
set_option maxRecDepth 100000 in
set_option maxHeartbeats 4000000 in
theorem C_LandReader_carryOutOne {l : Launch} {land1 : Nat} {m2 : MI} {r0 : Bool} {mr : MI} (hp_land1 : isLand land1) (hf : LandReader_carryOutOne land1 m2 = some (r0, mr)) : Cn l yX3_carryOutOne cX3_carryOutOne 2 (some .boolean) 4 LAY (fun ad => .ref (ad 23) :: [.ref (ad land1)]) m2 (fun _ => some (.int (bI r0))) mr := by
  refine Cn.of (fun ad => [some (.ref (ad 23)), some (.ref (ad land1))]) (by decide +kernel) (fun _ => rfl) (fun _ => Nat.le_of_ble_eq_true rfl) (fun Γ hl hC hR hk => ?_)
  subst hl
  replace hC : CX Γ cX3_carryOutOne RX3 LAY 4 2 := hC
  dsimp only [LandReader_carryOutOne] at hf
  refine GX_aload_n hC dX3_carryOutOne_0 rfl ?_
  refine GX_getI hC fkX3_15 ol_23 rfl dX3_carryOutOne_1 ?_
  obtain ⟨w3, e4, h5⟩ := ob hf
  refine GX_nm (oi e4) ?_
  by_cases q0 : w3 = 99
  · skip
    have h6 := ifP q0 h5
    refine GX_lookup hC 98 dX3_carryOutOne_4 (by decide) (by rw [q0]; first | done | rfl) (by decide) ?_
    refine GX_aload_n hC dX3_carryOutOne_98 rfl ?_
    refine GX_aload_n hC dX3_carryOutOne_99 rfl ?_
    refine GX_getI hC fkX3_18 ol_23 rfl dX3_carryOutOne_100 ?_
    refine GX_aload_n hC dX3_carryOutOne_103 rfl ?_
    refine GX_getI hC fkX3_21 ol_23 rfl dX3_carryOutOne_104 ?_
    refine GX_iconst hC 3 dX3_carryOutOne_107 rfl ?_
    obtain ⟨⟨b7, m8⟩, e9, h10⟩ := ob h6
    refine GX_callV_i (st := []) hC (C_Land_join hp_land1 e9) okX2_join lkX3_79 (olLand hp_land1) rfl rfl (Nat.le_of_ble_eq_true rfl) (Nat.le_of_ble_eq_true rfl) hk rfl (Nat.le_of_ble_eq_true rfl) dX3_carryOutOne_108 ?_
    exact GX_zretW hC b7 hR dX3_carryOutOne_111 (oi h10)
  · skip
    have h11 := ifN q0 h5
    by_cases q1 : w3 = 102
    · skip
      have h12 := ifP q1 h11
      refine GX_lookup hC 64 dX3_carryOutOne_4 (by decide) (by rw [q1]; first | done | rfl) (by decide) ?_
      refine GX_aload_n hC dX3_carryOutOne_64 rfl ?_
      refine GX_aload_n hC dX3_carryOutOne_65 rfl ?_
      refine GX_getI hC fkX3_18 ol_23 rfl dX3_carryOutOne_66 ?_
      obtain ⟨⟨b13, m14⟩, e15, h16⟩ := ob h12
      refine GX_callV_i (st := []) hC (C_Land_addField hp_land1 e15) okX2_addField lkX3_74 (olLand hp_land1) rfl rfl (Nat.le_of_ble_eq_true rfl) (Nat.le_of_ble_eq_true rfl) hk rfl (Nat.le_of_ble_eq_true rfl) dX3_carryOutOne_69 ?_
      exact GX_zretW hC b13 hR dX3_carryOutOne_72 (oi h16)
    · skip
      have h17 := ifN q1 h11
      by_cases q2 : w3 = 104
      · skip
        have h18 := ifP q2 h17
        refine GX_lookup hC 73 dX3_carryOutOne_4 (by decide) (by rw [q2]; first | done | rfl) (by decide) ?_
        refine GX_aload_n hC dX3_carryOutOne_73 rfl ?_
        refine GX_aload_n hC dX3_carryOutOne_74 rfl ?_
        refine GX_getI hC fkX3_18 ol_23 rfl dX3_carryOutOne_75 ?_
        refine GX_aload_n hC dX3_carryOutOne_78 rfl ?_
        refine GX_getI hC fkX3_21 ol_23 rfl dX3_carryOutOne_79 ?_
        obtain ⟨x19, e20, h21⟩ := ob h18
        suffices hJ22 : GX Γ LAY 0 0 [some (.ref (gad Γ 23)), some (.ref (gad Γ land1))] [.int x19, .int (m2.1 23 3), .int (m2.1 23 2), .ref (gad Γ land1)] m2 94 by
          refine GX_aload_n hC dX3_carryOutOne_82 rfl ?_
          obtain ⟨b23, e24, h25⟩ := ob e20
          refine GX_ldZ hC e24 fkX3_27 ol_23 rfl dX3_carryOutOne_83 ?_
          refine GX_ifb_eq hC 93 dX3_carryOutOne_86 (by decide) (fun q => ?_) (fun q => ?_)
          · skip
            have h26 := ifT q h25
            refine GX_iconst hC 2 dX3_carryOutOne_89 rfl ?_
            refine GX_goto hC 94 dX3_carryOutOne_90 (by decide) ?_
            exact GX_nm (oi h26) hJ22
          · skip
            have h27 := ifF q h25
            refine GX_iconst hC 1 dX3_carryOutOne_93 rfl ?_
            exact GX_nm (oi h27) hJ22
        obtain ⟨⟨b28, m29⟩, e30, h31⟩ := ob h21
        refine GX_callV_i (st := []) hC (C_Land_join hp_land1 e30) okX2_join lkX3_79 (olLand hp_land1) rfl rfl (Nat.le_of_ble_eq_true rfl) (Nat.le_of_ble_eq_true rfl) hk rfl (Nat.le_of_ble_eq_true rfl) dX3_carryOutOne_94 ?_
        exact GX_zretW hC b28 hR dX3_carryOutOne_97 (oi h31)
      · skip
        have h32 := ifN q2 h17
        by_cases q3 : w3 = 111
        · skip
          have h33 := ifP q3 h32
          refine GX_lookup hC 135 dX3_carryOutOne_4 (by decide) (by rw [q3]; first | done | rfl) (by decide) ?_
          obtain ⟨⟨c34, m35⟩, e36, h37⟩ := ob h33
          suffices hJ38 : GX Γ LAY 0 0 [some (.ref (gad Γ 23)), some (.ref (gad Γ land1))] [.int (bI c34)] m35 166 by
            have hc39 : ∀ m40 : MI, (true, m40) = (c34, m35) → GX Γ LAY 0 0 [some (.ref (gad Γ 23)), some (.ref (gad Γ land1))] [] m40 161 := by
              intro m40 q
              cases q
              refine GX_iconst hC (bI true) dX3_carryOutOne_161 rfl ?_
              refine GX_goto hC 166 dX3_carryOutOne_162 (by decide) ?_
              exact hJ38
            have hc41 : ∀ m42 : MI, (false, m42) = (c34, m35) → GX Γ LAY 0 0 [some (.ref (gad Γ 23)), some (.ref (gad Γ land1))] [] m42 165 := by
              intro m42 q
              cases q
              refine GX_iconst hC (bI false) dX3_carryOutOne_165 rfl ?_
              exact hJ38
            refine GX_aload_n hC dX3_carryOutOne_135 rfl ?_
            refine GX_aload_n hC dX3_carryOutOne_136 rfl ?_
            refine GX_getI hC fkX3_18 ol_23 rfl dX3_carryOutOne_137 ?_
            obtain ⟨b43, e44, h45⟩ := ob e36
            refine GX_callV_i (st := []) hC (C_Land_isPerson hp_land1 e44) okX2_isPerson lkX3_89 (olLand hp_land1) rfl rfl (Nat.le_of_ble_eq_true rfl) (Nat.le_of_ble_eq_true rfl) hk rfl (Nat.le_of_ble_eq_true rfl) dX3_carryOutOne_140 ?_
            refine GX_ifb_eq hC 165 dX3_carryOutOne_143 (by decide) (fun q => ?_) (fun q => ?_)
            · skip
              have h46 := ifT q h45
              refine GX_aload_n hC dX3_carryOutOne_146 rfl ?_
              refine GX_aload_n hC dX3_carryOutOne_147 rfl ?_
              refine GX_getI hC fkX3_18 ol_23 rfl dX3_carryOutOne_148 ?_
              refine GX_aload_n hC dX3_carryOutOne_151 rfl ?_
              refine GX_getI hC fkX3_21 ol_23 rfl dX3_carryOutOne_152 ?_
              obtain ⟨⟨b47, m48⟩, e49, h50⟩ := ob h46
              refine GX_callV_i (st := []) hC (C_Land_give hp_land1 e49) okX2_give lkX3_92 (olLand hp_land1) rfl rfl (Nat.le_of_ble_eq_true rfl) (Nat.le_of_ble_eq_true rfl) hk rfl (Nat.le_of_ble_eq_true rfl) dX3_carryOutOne_155 ?_
              refine GX_ifb_eq hC 165 dX3_carryOutOne_158 (by decide) (fun q => ?_) (fun q => ?_)
              · skip
                exact hc39 _ (mbT q h50)
              · skip
                exact hc41 _ (mbF q h50)
            · skip
              have h51 := ifF q h45
              exact hc41 _ (oi h51)
          exact GX_zretW hC c34 hR dX3_carryOutOne_166 (oi h37)
        · skip
          have h52 := ifN q3 h32
          by_cases q4 : w3 = 112
          · skip
            have h53 := ifP q4 h52
            refine GX_lookup hC 112 dX3_carryOutOne_4 (by decide) (by rw [q4]; first | done | rfl) (by decide) ?_
            refine GX_aload_n hC dX3_carryOutOne_112 rfl ?_
            refine GX_aload_n hC dX3_carryOutOne_113 rfl ?_
            obtain ⟨⟨b54, m55⟩, e56, h57⟩ := ob h53
            refine GX_callV_i (st := []) hC (C_LandReader_carryOutPerson hp_land1 e56) okX3_carryOutPerson lkX3_83 ol_23 rfl rfl (Nat.le_of_ble_eq_true rfl) (Nat.le_of_ble_eq_true rfl) hk rfl (Nat.le_of_ble_eq_true rfl) dX3_carryOutOne_114 ?_
            exact GX_zretW hC b54 hR dX3_carryOutOne_117 (oi h57)
          · skip
            have h58 := ifN q4 h52
            by_cases q5 : w3 = 119
            · skip
              have h59 := ifP q5 h58
              refine GX_lookup hC 118 dX3_carryOutOne_4 (by decide) (by rw [q5]; first | done | rfl) (by decide) ?_
              refine GX_aload_n hC dX3_carryOutOne_118 rfl ?_
              refine GX_aload_n hC dX3_carryOutOne_119 rfl ?_
              refine GX_getI hC fkX3_18 ol_23 rfl dX3_carryOutOne_120 ?_
              refine GX_aload_n hC dX3_carryOutOne_123 rfl ?_
              refine GX_getI hC fkX3_21 ol_23 rfl dX3_carryOutOne_124 ?_
              refine GX_aload_n hC dX3_carryOutOne_127 rfl ?_
              refine GX_getI hC fkX3_24 ol_23 rfl dX3_carryOutOne_128 ?_
              obtain ⟨⟨b60, m61⟩, e62, h63⟩ := ob h59
              refine GX_callV_i (st := []) hC (C_Land_setWorth hp_land1 e62) okX2_setWorth lkX3_86 (olLand hp_land1) rfl rfl (Nat.le_of_ble_eq_true rfl) (Nat.le_of_ble_eq_true rfl) hk rfl (Nat.le_of_ble_eq_true rfl) dX3_carryOutOne_131 ?_
              exact GX_zretW hC b60 hR dX3_carryOutOne_134 (oi h63)
            · skip
              have h64 := ifN q5 h58
              refine GX_lookup (off := 163) hC 167 dX3_carryOutOne_4 (by decide) (by have n0 := sw_ne q0 (z := 99) rfl; have n1 := sw_ne q1 (z := 102) rfl; have n2 := sw_ne q2 (z := 104) rfl; have n3 := sw_ne q3 (z := 111) rfl; have n4 := sw_ne q4 (z := 112) rfl; have n5 := sw_ne q5 (z := 119) rfl; simp [Op.lookupswitch.offset, n0, Ne.symm n0, n1, Ne.symm n1, n2, Ne.symm n2, n3, Ne.symm n3, n4, Ne.symm n4, n5, Ne.symm n5]) (by decide) ?_
              refine GX_aload_n hC dX3_carryOutOne_167 rfl ?_
              refine GX_aload_n hC dX3_carryOutOne_168 rfl ?_
              obtain ⟨⟨b65, m66⟩, e67, h68⟩ := ob h64
              refine GX_callV_i (st := []) hC (C_LandReader_carryOutLaw hp_land1 e67) okX3_carryOutLaw lkX3_96 ol_23 rfl rfl (Nat.le_of_ble_eq_true rfl) (Nat.le_of_ble_eq_true rfl) hk rfl (Nat.le_of_ble_eq_true rfl) dX3_carryOutOne_169 ?_
              exact GX_zretW hC b65 hR dX3_carryOutOne_172 (oi h68)
set_option maxRecDepth 100000 in
set_option maxHeartbeats 4000000 in
theorem C_LandReader_isLetter {l : Launch} {m1 : MI} {r0 : Bool}  (hf : LandReader_isLetter m1 = some r0) : Cn l yX3_isLetter cX3_isLetter 1 (some .boolean) 0 LAY (fun ad => .ref (ad 23) :: []) m1 (fun _ => some (.int (bI r0))) m1 := by
  refine Cn.of (fun ad => [some (.ref (ad 23))]) (by decide +kernel) (fun _ => rfl) (fun _ => Nat.le_of_ble_eq_true rfl) (fun Γ hl hC hR hk => ?_)
  subst hl
  replace hC : CX Γ cX3_isLetter RX3 LAY 0 1 := hC
  dsimp only [LandReader_isLetter] at hf
  refine GX_aload_n hC dX3_isLetter_0 rfl ?_
  refine GX_getI hC fkX3_15 ol_23 rfl dX3_isLetter_1 ?_
  obtain ⟨w2, e3, h4⟩ := ob hf
  refine GX_nm (oi e3) ?_
  by_cases q0 : w2 = 99
  · skip
    have h5 := ifP q0 h4
    refine GX_tableIn hC 99 108 dX3_isLetter_4 q0 (by decide) (by decide) rfl (by decide) ?_
    refine GX_iconst hC (bI true) dX3_isLetter_108 rfl ?_
    exact GX_zretR hC true hR dX3_isLetter_109 (oi h5)
  · skip
    have h6 := ifN q0 h4
    by_cases q1 : w2 = 100
    · skip
      have h7 := ifP q1 h6
      refine GX_tableIn hC 100 110 dX3_isLetter_4 q1 (by decide) (by decide) rfl (by decide) ?_
      refine GX_iconst hC (bI false) dX3_isLetter_110 rfl ?_
      exact GX_zretR hC false hR dX3_isLetter_111 (oi h7)
    · skip
      have h8 := ifN q1 h6
      by_cases q2 : w2 = 101
      · skip
        have h9 := ifP q2 h8
        refine GX_tableIn hC 101 110 dX3_isLetter_4 q2 (by decide) (by decide) rfl (by decide) ?_
        refine GX_iconst hC (bI false) dX3_isLetter_110 rfl ?_
        exact GX_zretR hC false hR dX3_isLetter_111 (oi h9)
      · skip
        have h10 := ifN q2 h8
        by_cases q3 : w2 = 102
        · skip
          have h11 := ifP q3 h10
          refine GX_tableIn hC 102 108 dX3_isLetter_4 q3 (by decide) (by decide) rfl (by decide) ?_
          refine GX_iconst hC (bI true) dX3_isLetter_108 rfl ?_
          exact GX_zretR hC true hR dX3_isLetter_109 (oi h11)
        · skip
          have h12 := ifN q3 h10
          by_cases q4 : w2 = 103
          · skip
            have h13 := ifP q4 h12
            refine GX_tableIn hC 103 110 dX3_isLetter_4 q4 (by decide) (by decide) rfl (by decide) ?_
            refine GX_iconst hC (bI false) dX3_isLetter_110 rfl ?_
            exact GX_zretR hC false hR dX3_isLetter_111 (oi h13)
          · skip
            have h14 := ifN q4 h12
            by_cases q5 : w2 = 104
            · skip
              have h15 := ifP q5 h14
              refine GX_tableIn hC 104 108 dX3_isLetter_4 q5 (by decide) (by decide) rfl (by decide) ?_
              refine GX_iconst hC (bI true) dX3_isLetter_108 rfl ?_
              exact GX_zretR hC true hR dX3_isLetter_109 (oi h15)
            · skip
              have h16 := ifN q5 h14
              by_cases q6 : w2 = 105
              · skip
                have h17 := ifP q6 h16
                refine GX_tableIn hC 105 110 dX3_isLetter_4 q6 (by decide) (by decide) rfl (by decide) ?_
                refine GX_iconst hC (bI false) dX3_isLetter_110 rfl ?_
                exact GX_zretR hC false hR dX3_isLetter_111 (oi h17)
              · skip
                have h18 := ifN q6 h16
                by_cases q7 : w2 = 106
                · skip
                  have h19 := ifP q7 h18
                  refine GX_tableIn hC 106 110 dX3_isLetter_4 q7 (by decide) (by decide) rfl (by decide) ?_
                  refine GX_iconst hC (bI false) dX3_isLetter_110 rfl ?_
                  exact GX_zretR hC false hR dX3_isLetter_111 (oi h19)
                · skip
                  have h20 := ifN q7 h18
                  by_cases q8 : w2 = 107
                  · skip
                    have h21 := ifP q8 h20
                    refine GX_tableIn hC 107 110 dX3_isLetter_4 q8 (by decide) (by decide) rfl (by decide) ?_
                    refine GX_iconst hC (bI false) dX3_isLetter_110 rfl ?_
                    exact GX_zretR hC false hR dX3_isLetter_111 (oi h21)
                  · skip
                    have h22 := ifN q8 h20
                    by_cases q9 : w2 = 108
                    · skip
                      have h23 := ifP q9 h22
                      refine GX_tableIn hC 108 110 dX3_isLetter_4 q9 (by decide) (by decide) rfl (by decide) ?_
                      refine GX_iconst hC (bI false) dX3_isLetter_110 rfl ?_
                      exact GX_zretR hC false hR dX3_isLetter_111 (oi h23)
                    · skip
                      have h24 := ifN q9 h22
                      by_cases q10 : w2 = 109
                      · skip
                        have h25 := ifP q10 h24
                        refine GX_tableIn hC 109 110 dX3_isLetter_4 q10 (by decide) (by decide) rfl (by decide) ?_
                        refine GX_iconst hC (bI false) dX3_isLetter_110 rfl ?_
                        exact GX_zretR hC false hR dX3_isLetter_111 (oi h25)
                      · skip
                        have h26 := ifN q10 h24
                        by_cases q11 : w2 = 110
                        · skip
                          have h27 := ifP q11 h26
                          refine GX_tableIn hC 110 110 dX3_isLetter_4 q11 (by decide) (by decide) rfl (by decide) ?_
                          refine GX_iconst hC (bI false) dX3_isLetter_110 rfl ?_
                          exact GX_zretR hC false hR dX3_isLetter_111 (oi h27)
                        · skip
                          have h28 := ifN q11 h26
                          by_cases q12 : w2 = 111
                          · skip
                            have h29 := ifP q12 h28
                            refine GX_tableIn hC 111 108 dX3_isLetter_4 q12 (by decide) (by decide) rfl (by decide) ?_
                            refine GX_iconst hC (bI true) dX3_isLetter_108 rfl ?_
                            exact GX_zretR hC true hR dX3_isLetter_109 (oi h29)
                          · skip
                            have h30 := ifN q12 h28
                            by_cases q13 : w2 = 112
                            · skip
                              have h31 := ifP q13 h30
                              refine GX_tableIn hC 112 108 dX3_isLetter_4 q13 (by decide) (by decide) rfl (by decide) ?_
                              refine GX_iconst hC (bI true) dX3_isLetter_108 rfl ?_
                              exact GX_zretR hC true hR dX3_isLetter_109 (oi h31)
                            · skip
                              have h32 := ifN q13 h30
                              by_cases q14 : w2 = 113
                              · skip
                                have h33 := ifP q14 h32
                                refine GX_tableIn hC 113 110 dX3_isLetter_4 q14 (by decide) (by decide) rfl (by decide) ?_
                                refine GX_iconst hC (bI false) dX3_isLetter_110 rfl ?_
                                exact GX_zretR hC false hR dX3_isLetter_111 (oi h33)
                              · skip
                                have h34 := ifN q14 h32
                                by_cases q15 : w2 = 114
                                · skip
                                  have h35 := ifP q15 h34
                                  refine GX_tableIn hC 114 110 dX3_isLetter_4 q15 (by decide) (by decide) rfl (by decide) ?_
                                  refine GX_iconst hC (bI false) dX3_isLetter_110 rfl ?_
                                  exact GX_zretR hC false hR dX3_isLetter_111 (oi h35)
                                · skip
                                  have h36 := ifN q15 h34
                                  by_cases q16 : w2 = 115
                                  · skip
                                    have h37 := ifP q16 h36
                                    refine GX_tableIn hC 115 110 dX3_isLetter_4 q16 (by decide) (by decide) rfl (by decide) ?_
                                    refine GX_iconst hC (bI false) dX3_isLetter_110 rfl ?_
                                    exact GX_zretR hC false hR dX3_isLetter_111 (oi h37)
                                  · skip
                                    have h38 := ifN q16 h36
                                    by_cases q17 : w2 = 116
                                    · skip
                                      have h39 := ifP q17 h38
                                      refine GX_tableIn hC 116 110 dX3_isLetter_4 q17 (by decide) (by decide) rfl (by decide) ?_
                                      refine GX_iconst hC (bI false) dX3_isLetter_110 rfl ?_
                                      exact GX_zretR hC false hR dX3_isLetter_111 (oi h39)
                                    · skip
                                      have h40 := ifN q17 h38
                                      by_cases q18 : w2 = 117
                                      · skip
                                        have h41 := ifP q18 h40
                                        refine GX_tableIn hC 117 110 dX3_isLetter_4 q18 (by decide) (by decide) rfl (by decide) ?_
                                        refine GX_iconst hC (bI false) dX3_isLetter_110 rfl ?_
                                        exact GX_zretR hC false hR dX3_isLetter_111 (oi h41)
                                      · skip
                                        have h42 := ifN q18 h40
                                        by_cases q19 : w2 = 118
                                        · skip
                                          have h43 := ifP q19 h42
                                          refine GX_tableIn hC 118 110 dX3_isLetter_4 q19 (by decide) (by decide) rfl (by decide) ?_
                                          refine GX_iconst hC (bI false) dX3_isLetter_110 rfl ?_
                                          exact GX_zretR hC false hR dX3_isLetter_111 (oi h43)
                                        · skip
                                          have h44 := ifN q19 h42
                                          by_cases q20 : w2 = 119
                                          · skip
                                            have h45 := ifP q20 h44
                                            refine GX_tableIn hC 119 108 dX3_isLetter_4 q20 (by decide) (by decide) rfl (by decide) ?_
                                            refine GX_iconst hC (bI true) dX3_isLetter_108 rfl ?_
                                            exact GX_zretR hC true hR dX3_isLetter_109 (oi h45)
                                          · skip
                                            have h46 := ifN q20 h44
                                            by_cases q21 : w2 = 120
                                            · skip
                                              have h47 := ifP q21 h46
                                              refine GX_tableIn hC 120 108 dX3_isLetter_4 q21 (by decide) (by decide) rfl (by decide) ?_
                                              refine GX_iconst hC (bI true) dX3_isLetter_108 rfl ?_
                                              exact GX_zretR hC true hR dX3_isLetter_109 (oi h47)
                                            · skip
                                              have h48 := ifN q21 h46
                                              refine GX_tableOut hC 110 dX3_isLetter_4 (by have n0 := sw_ne q0 (z := 99) rfl; have n1 := sw_ne q1 (z := 100) rfl; have n2 := sw_ne q2 (z := 101) rfl; have n3 := sw_ne q3 (z := 102) rfl; have n4 := sw_ne q4 (z := 103) rfl; have n5 := sw_ne q5 (z := 104) rfl; have n6 := sw_ne q6 (z := 105) rfl; have n7 := sw_ne q7 (z := 106) rfl; have n8 := sw_ne q8 (z := 107) rfl; have n9 := sw_ne q9 (z := 108) rfl; have n10 := sw_ne q10 (z := 109) rfl; have n11 := sw_ne q11 (z := 110) rfl; have n12 := sw_ne q12 (z := 111) rfl; have n13 := sw_ne q13 (z := 112) rfl; have n14 := sw_ne q14 (z := 113) rfl; have n15 := sw_ne q15 (z := 114) rfl; have n16 := sw_ne q16 (z := 115) rfl; have n17 := sw_ne q17 (z := 116) rfl; have n18 := sw_ne q18 (z := 117) rfl; have n19 := sw_ne q19 (z := 118) rfl; have n20 := sw_ne q20 (z := 119) rfl; have n21 := sw_ne q21 (z := 120) rfl; omega) (by decide) ?_
                                              refine GX_iconst hC (bI false) dX3_isLetter_110 rfl ?_
                                              exact GX_zretR hC false hR dX3_isLetter_111 (oi h48)
set_option maxRecDepth 100000 in
set_option maxHeartbeats 4000000 in
theorem C_LandReader_isDigit {l : Launch} {sign1 : Int32} {μ0 : MI} {r0 : Bool}  (hf : LandReader_isDigit sign1 = some r0) : Cn l yX3_isDigit cX3_isDigit 1 (some .boolean) 0 LAY (fun ad => [.int sign1]) μ0 (fun _ => some (.int (bI r0))) μ0 := by
  refine Cn.of (fun ad => [some (.int sign1)]) (by decide +kernel) (fun _ => rfl) (fun _ => Nat.le_of_ble_eq_true rfl) (fun Γ hl hC hR hk => ?_)
  subst hl
  replace hC : CX Γ cX3_isDigit RX3 LAY 0 1 := hC
  dsimp only [LandReader_isDigit] at hf
  obtain ⟨c2, e3, h4⟩ := ob hf
  suffices hJ5 : GX Γ LAY 0 0 [some (.int sign1)] [.int (bI c2)] μ0 17 by
    have hc6 : true = c2 → GX Γ LAY 0 0 [some (.int sign1)] [] μ0 12 := by
      intro q
      subst q
      refine GX_iconst hC (bI true) dX3_isDigit_12 rfl ?_
      refine GX_goto hC 17 dX3_isDigit_13 (by decide) ?_
      exact hJ5
    have hc7 : false = c2 → GX Γ LAY 0 0 [some (.int sign1)] [] μ0 16 := by
      intro q
      subst q
      refine GX_iconst hC (bI false) dX3_isDigit_16 rfl ?_
      exact hJ5
    refine GX_iload_n hC dX3_isDigit_0 rfl ?_
    refine GX_bipush hC 48 dX3_isDigit_1 rfl ?_
    refine GX_icmp_lt_N hC 16 dX3_isDigit_3 (by decide) (fun q => ?_) (fun q => ?_)
    · skip
      have h8 := ifP q e3
      refine GX_iload_n hC dX3_isDigit_6 rfl ?_
      refine GX_bipush hC 57 dX3_isDigit_7 rfl ?_
      refine GX_icmp_gt_N hC 16 dX3_isDigit_9 (by decide) (fun q => ?_) (fun q => ?_)
      · skip
        exact hc6 (cdT q h8)
      · skip
        exact hc7 (cdF q h8)
    · skip
      have h9 := ifN q e3
      exact hc7 (oi h9)
  exact GX_zretR hC c2 hR dX3_isDigit_17 (oi h4)
set_option maxRecDepth 100000 in
set_option maxHeartbeats 4000000 in
theorem C_LandReader_takeDigits {l : Launch} {text1 : Nat} {n2 : Int32} {m3 : MI} {r0 : Bool} {mr : MI} (hp_text1 : isShelf text1) (hf : LandReader_takeDigits text1 n2 m3 = some (r0, mr)) : Cn l yX3_takeDigits cX3_takeDigits 5 (some .boolean) 1 LAY (fun ad => .ref (ad 23) :: [.ref (ad text1), .int n2]) m3 (fun _ => some (.int (bI r0))) mr := by
  refine Cn.of (fun ad => [some (.ref (ad 23)), some (.ref (ad text1)), some (.int n2), none, none]) (by decide +kernel) (fun _ => rfl) (fun _ => Nat.le_of_ble_eq_true rfl) (fun Γ hl hC hR hk => ?_)
  subst hl
  replace hC : CX Γ cX3_takeDigits RX3 LAY 1 5 := hC
  dsimp only [LandReader_takeDigits] at hf
  refine GX_iconst hC 0 dX3_takeDigits_0 rfl ?_
  refine GX_istore_n hC [some (.ref (gad Γ 23)), some (.ref (gad Γ text1)), some (.int n2), some (.int 0), none] dX3_takeDigits_1 (by decide) rfl rfl ?_
  obtain ⟨o4, e5, h6⟩ := ob hf
  have hR7 : ∀ res : Bool × MI, Sum.inr res = o4 → res = (r0, mr) := by
    intro res q
    subst q
    have h6 := seR h6
    exact (oi h6)
  suffices hJ7 : ∀ (m10 : MI), Sum.inl m10 = o4 → GX Γ LAY 0 0 [some (.ref (gad Γ 23)), some (.ref (gad Γ text1)), some (.int n2), none, none] [] m10 68 by
    refine lp_walk (P := fun s => GX Γ LAY 0 0 [some (.ref (gad Γ 23)), some (.ref (gad Γ text1)), some (.int n2), some (.int s.1), none] [] s.2 2) (fun s x hx7 hI7 hO7 => ?_) _ _ e5
    obtain ⟨i8, m9⟩ := s
    show GX Γ LAY 0 0 [some (.ref (gad Γ 23)), some (.ref (gad Γ text1)), some (.int n2), some (.int i8), none] [] m9 2
    dsimp only [LandReader_takeDigits_s1] at hx7
    refine GX_iload_n hC dX3_takeDigits_2 rfl ?_
    refine GX_iload_n hC dX3_takeDigits_3 rfl ?_
    refine GX_icmp_ge_N hC 68 dX3_takeDigits_4 (by decide) (fun q => ?_) (fun q => ?_)
    · skip
      have h11 := ifP q hx7
      refine GX_aload_n hC dX3_takeDigits_7 rfl ?_
      refine GX_aload_n hC dX3_takeDigits_8 rfl ?_
      refine GX_getI hC fkX3_9 ol_23 rfl dX3_takeDigits_9 ?_
      obtain ⟨r12, e13, h14⟩ := ob h11
      refine GX_callV_i (st := []) hC (C_Shelf_at hp_text1 e13) okX8_at lkX3_44 (olShelf hp_text1) rfl rfl (Nat.le_of_ble_eq_true rfl) (Nat.le_of_ble_eq_true rfl) hk rfl (Nat.le_of_ble_eq_true rfl) dX3_takeDigits_12 ?_
      refine GX_istore hC [some (.ref (gad Γ 23)), some (.ref (gad Γ text1)), some (.int n2), some (.int i8), some (.int r12)] dX3_takeDigits_15 (by decide) rfl rfl ?_
      refine GX_iload hC dX3_takeDigits_17 rfl ?_
      obtain ⟨b15, e16, h17⟩ := ob h14
      refine GX_callS_i (st := []) hC (C_LandReader_isDigit e16) okX3_isDigit lkX3_70 rfl (Nat.le_of_ble_eq_true rfl) (Nat.le_of_ble_eq_true rfl) hk rfl (Nat.le_of_ble_eq_true rfl) dX3_takeDigits_19 ?_
      refine GX_ifb_ne hC 27 dX3_takeDigits_22 (by decide) (fun q => ?_) (fun q => ?_)
      · skip
        have h18 := ifT q h17
        obtain ⟨o19, e20, h21⟩ := ob h18
        suffices hJ23 : ∀ (m22 : MI), m22 = o19 → GX Γ LAY 0 0 [some (.ref (gad Γ 23)), some (.ref (gad Γ text1)), some (.int n2), some (.int i8), some (.int r12)] [] m22 52 by
          refine GX_iload_n hC dX3_takeDigits_27 rfl ?_
          refine GX_if_ne_N hC 43 dX3_takeDigits_28 (by decide) (fun q => ?_) (fun q => ?_)
          · skip
            have h24 := ifP q e20
            refine GX_aload_n hC dX3_takeDigits_31 rfl ?_
            refine GX_iload hC dX3_takeDigits_32 rfl ?_
            refine GX_bipush hC 48 dX3_takeDigits_34 rfl ?_
            refine GX_isub hC dX3_takeDigits_36 ?_
            obtain ⟨m25, e26, h27⟩ := ob h24
            refine GX_stF hC e26 fkX3_18 ftX3_2 ol_23 rfl dX3_takeDigits_37 ?_
            refine GX_goto hC 52 dX3_takeDigits_40 (by decide) ?_
            exact (hJ23 _ (oi h27))
          · skip
            have h28 := ifN q e20
            refine GX_aload_n hC dX3_takeDigits_43 rfl ?_
            refine GX_iload hC dX3_takeDigits_44 rfl ?_
            refine GX_bipush hC 48 dX3_takeDigits_46 rfl ?_
            refine GX_isub hC dX3_takeDigits_48 ?_
            obtain ⟨m29, e30, h31⟩ := ob h28
            refine GX_stF hC e30 fkX3_21 ftX3_3 ol_23 rfl dX3_takeDigits_49 ?_
            exact (hJ23 _ (oi h31))
        intro m22 q32
        subst q32
        refine GX_aload_n hC dX3_takeDigits_52 rfl ?_
        refine GX_dup hC dX3_takeDigits_53 rfl ?_
        refine GX_getI hC fkX3_9 ol_23 rfl dX3_takeDigits_54 ?_
        refine GX_iconst hC 1 dX3_takeDigits_57 rfl ?_
        refine GX_iadd hC dX3_takeDigits_58 ?_
        obtain ⟨m33, e34, h35⟩ := ob h21
        refine GX_stF hC e34 fkX3_9 ftX3_0 ol_23 rfl dX3_takeDigits_59 ?_
        obtain ⟨i36, e37, h38⟩ := ob h35
        refine GX_iinc hC i36 [some (.ref (gad Γ 23)), some (.ref (gad Γ text1)), some (.int n2), some (.int i36), some (.int r12)] dX3_takeDigits_62 rfl (oi e37) (by decide) rfl rfl ?_
        refine GX_goto hC 2 dX3_takeDigits_65 (by decide) ?_
        exact GX.le (hI7 _ (oi h38).symm) ⟨rfl, ⟨rfl, ⟨rfl, ⟨rfl, trivial⟩⟩⟩⟩
      · skip
        have h39 := ifF q h17
        refine GX_iconst hC (bI false) dX3_takeDigits_25 rfl ?_
        exact GX_zretW hC false hR dX3_takeDigits_26 (hR7 _ (hO7 _ (oi h39).symm))
    · skip
      have h40 := ifN q hx7
      exact GX.le (hJ7 _ (hO7 _ (oi h40).symm)) ⟨rfl, ⟨rfl, ⟨rfl, trivial⟩⟩⟩
  intro m10 q41
  subst q41
  have h6 := seL h6
  refine GX_iconst hC (bI true) dX3_takeDigits_68 rfl ?_
  exact GX_zretW hC true hR dX3_takeDigits_69 (oi h6)
set_option maxRecDepth 100000 in
set_option maxHeartbeats 4000000 in
theorem C_LandReader_takeFigure {l : Launch} {text1 : Nat} {mostDigits2 : Int32} {m3 : MI} {r0 : Bool} {mr : MI} (hp_text1 : isShelf text1) (hf : LandReader_takeFigure text1 mostDigits2 m3 = some (r0, mr)) : Cn l yX3_takeFigure cX3_takeFigure 4 (some .boolean) 1 LAY (fun ad => .ref (ad 23) :: [.ref (ad text1), .int mostDigits2]) m3 (fun _ => some (.int (bI r0))) mr := by
  refine Cn.of (fun ad => [some (.ref (ad 23)), some (.ref (ad text1)), some (.int mostDigits2), none]) (by decide +kernel) (fun _ => rfl) (fun _ => Nat.le_of_ble_eq_true rfl) (fun Γ hl hC hR hk => ?_)
  subst hl
  replace hC : CX Γ cX3_takeFigure RX3 LAY 1 4 := hC
  dsimp only [LandReader_takeFigure] at hf
  refine GX_iconst hC 0 dX3_takeFigure_0 rfl ?_
  refine GX_istore_n hC [some (.ref (gad Γ 23)), some (.ref (gad Γ text1)), some (.int mostDigits2), some (.int 0)] dX3_takeFigure_1 (by decide) rfl rfl ?_
  refine GX_aload_n hC dX3_takeFigure_2 rfl ?_
  refine GX_iconst hC 0 dX3_takeFigure_3 rfl ?_
  obtain ⟨m4, e5, h6⟩ := ob hf
  refine GX_stF hC e5 fkX3_24 ftX3_4 ol_23 rfl dX3_takeFigure_4 ?_
  obtain ⟨o7, e8, h9⟩ := ob h6
  suffices hJ10 : ∀ (digits13 : Int32) (m14 : MI), (digits13, m14) = o7 → GX Γ LAY 0 0 [some (.ref (gad Γ 23)), some (.ref (gad Γ text1)), some (.int mostDigits2), some (.int digits13)] [] m14 76 by
    refine lp_walk (P := fun s => GX Γ LAY 0 0 [some (.ref (gad Γ 23)), some (.ref (gad Γ text1)), some (.int mostDigits2), some (.int s.1)] [] s.2 7) (fun s x hx10 hI10 hO10 => ?_) _ _ e8
    obtain ⟨digits11, m12⟩ := s
    show GX Γ LAY 0 0 [some (.ref (gad Γ 23)), some (.ref (gad Γ text1)), some (.int mostDigits2), some (.int digits11)] [] m12 7
    dsimp only [LandReader_takeFigure_s1] at hx10
    obtain ⟨c15, e16, h17⟩ := ob hx10
    have hc18 : true = c15 → GX Γ LAY 0 0 [some (.ref (gad Γ 23)), some (.ref (gad Γ text1)), some (.int mostDigits2), some (.int digits11)] [] m12 37 := by
      intro q
      have h19 := ifT q.symm h17
      refine GX_aload_n hC dX3_takeFigure_37 rfl ?_
      refine GX_bipush hC 10 dX3_takeFigure_38 rfl ?_
      refine GX_aload_n hC dX3_takeFigure_40 rfl ?_
      refine GX_getI hC fkX3_24 ol_23 rfl dX3_takeFigure_41 ?_
      refine GX_imul hC dX3_takeFigure_44 ?_
      refine GX_aload_n hC dX3_takeFigure_45 rfl ?_
      refine GX_aload_n hC dX3_takeFigure_46 rfl ?_
      refine GX_getI hC fkX3_9 ol_23 rfl dX3_takeFigure_47 ?_
      obtain ⟨r20, e21, h22⟩ := ob h19
      refine GX_callV_i (st := [.int (10 * (m12.1 23 4)), .ref (gad Γ 23)]) hC (C_Shelf_at hp_text1 e21) okX8_at lkX3_44 (olShelf hp_text1) rfl rfl (Nat.le_of_ble_eq_true rfl) (Nat.le_of_ble_eq_true rfl) hk rfl (Nat.le_of_ble_eq_true rfl) dX3_takeFigure_50 ?_
      refine GX_iadd hC dX3_takeFigure_53 ?_
      refine GX_bipush hC 48 dX3_takeFigure_54 rfl ?_
      refine GX_isub hC dX3_takeFigure_56 ?_
      obtain ⟨m23, e24, h25⟩ := ob h22
      refine GX_stF hC e24 fkX3_24 ftX3_4 ol_23 rfl dX3_takeFigure_57 ?_
      refine GX_aload_n hC dX3_takeFigure_60 rfl ?_
      refine GX_dup hC dX3_takeFigure_61 rfl ?_
      refine GX_getI hC fkX3_9 ol_23 rfl dX3_takeFigure_62 ?_
      refine GX_iconst hC 1 dX3_takeFigure_65 rfl ?_
      refine GX_iadd hC dX3_takeFigure_66 ?_
      obtain ⟨m26, e27, h28⟩ := ob h25
      refine GX_stF hC e27 fkX3_9 ftX3_0 ol_23 rfl dX3_takeFigure_67 ?_
      obtain ⟨i29, e30, h31⟩ := ob h28
      refine GX_iinc hC i29 [some (.ref (gad Γ 23)), some (.ref (gad Γ text1)), some (.int mostDigits2), some (.int i29)] dX3_takeFigure_70 rfl (oi e30) (by decide) rfl rfl ?_
      refine GX_goto hC 7 dX3_takeFigure_73 (by decide) ?_
      exact hI10 _ (oi h31).symm
    have hc32 : false = c15 → GX Γ LAY 0 0 [some (.ref (gad Γ 23)), some (.ref (gad Γ text1)), some (.int mostDigits2), some (.int digits11)] [] m12 76 := by
      intro q
      have h33 := ifF q.symm h17
      exact (hJ10 _ _ (hO10 _ (oi h33).symm))
    refine GX_iload_n hC dX3_takeFigure_7 rfl ?_
    refine GX_iload_n hC dX3_takeFigure_8 rfl ?_
    refine GX_icmp_ge_N hC 76 dX3_takeFigure_9 (by decide) (fun q => ?_) (fun q => ?_)
    · skip
      have h34 := ifP q e16
      refine GX_aload_n hC dX3_takeFigure_12 rfl ?_
      refine GX_aload_n hC dX3_takeFigure_13 rfl ?_
      refine GX_getI hC fkX3_9 ol_23 rfl dX3_takeFigure_14 ?_
      obtain ⟨r35, e36, h37⟩ := ob h34
      refine GX_callV_i (st := []) hC (C_Shelf_at hp_text1 e36) okX8_at lkX3_44 (olShelf hp_text1) rfl rfl (Nat.le_of_ble_eq_true rfl) (Nat.le_of_ble_eq_true rfl) hk rfl (Nat.le_of_ble_eq_true rfl) dX3_takeFigure_17 ?_
      obtain ⟨b38, e39, h40⟩ := ob h37
      refine GX_callS_i (st := []) hC (C_LandReader_isDigit e39) okX3_isDigit lkX3_70 rfl (Nat.le_of_ble_eq_true rfl) (Nat.le_of_ble_eq_true rfl) hk rfl (Nat.le_of_ble_eq_true rfl) dX3_takeFigure_20 ?_
      refine GX_ifb_eq hC 76 dX3_takeFigure_23 (by decide) (fun q => ?_) (fun q => ?_)
      · skip
        have h41 := ifT q h40
        refine GX_iload_n hC dX3_takeFigure_26 rfl ?_
        refine GX_if_eq_P hC 37 dX3_takeFigure_27 (by decide) (fun q => ?_) (fun q => ?_)
        · skip
          have h42 := ifP q h41
          exact hc18 (oi h42)
        · skip
          have h43 := ifN q h41
          refine GX_aload_n hC dX3_takeFigure_30 rfl ?_
          refine GX_getI hC fkX3_24 ol_23 rfl dX3_takeFigure_31 ?_
          refine GX_if_le_N hC 76 dX3_takeFigure_34 (by decide) (fun q => ?_) (fun q => ?_)
          · skip
            exact hc18 (cdT q h43)
          · skip
            exact hc32 (cdF q h43)
      · skip
        have h44 := ifF q h40
        exact hc32 (oi h44)
    · skip
      have h45 := ifN q e16
      exact hc32 (oi h45)
  intro digits13 m14 q46
  subst q46
  obtain ⟨c47, e48, h49⟩ := ob h9
  suffices hJ50 : GX Γ LAY 0 0 [some (.ref (gad Γ 23)), some (.ref (gad Γ text1)), some (.int mostDigits2), some (.int digits13)] [.int (bI c47)] m14 85 by
    have hc51 : true = c47 → GX Γ LAY 0 0 [some (.ref (gad Γ 23)), some (.ref (gad Γ text1)), some (.int mostDigits2), some (.int digits13)] [] m14 80 := by
      intro q
      subst q
      refine GX_iconst hC (bI true) dX3_takeFigure_80 rfl ?_
      refine GX_goto hC 85 dX3_takeFigure_81 (by decide) ?_
      exact hJ50
    have hc52 : false = c47 → GX Γ LAY 0 0 [some (.ref (gad Γ 23)), some (.ref (gad Γ text1)), some (.int mostDigits2), some (.int digits13)] [] m14 84 := by
      intro q
      subst q
      refine GX_iconst hC (bI false) dX3_takeFigure_84 rfl ?_
      exact hJ50
    refine GX_iload_n hC dX3_takeFigure_76 rfl ?_
    refine GX_if_le_N hC 84 dX3_takeFigure_77 (by decide) (fun q => ?_) (fun q => ?_)
    · skip
      exact hc51 (cdT q e48)
    · skip
      exact hc52 (cdF q e48)
  exact GX_zretW hC c47 hR dX3_takeFigure_85 (oi h49)
set_option maxRecDepth 100000 in
set_option maxHeartbeats 4000000 in
theorem C_LandReader_takeSign {l : Launch} {text1 : Nat} {sign2 : Int32} {m3 : MI} {r0 : Bool} {mr : MI} (hp_text1 : isShelf text1) (hf : LandReader_takeSign text1 sign2 m3 = some (r0, mr)) : Cn l yX3_takeSign cX3_takeSign 3 (some .boolean) 1 LAY (fun ad => .ref (ad 23) :: [.ref (ad text1), .int sign2]) m3 (fun _ => some (.int (bI r0))) mr := by
  refine Cn.of (fun ad => [some (.ref (ad 23)), some (.ref (ad text1)), some (.int sign2)]) (by decide +kernel) (fun _ => rfl) (fun _ => Nat.le_of_ble_eq_true rfl) (fun Γ hl hC hR hk => ?_)
  subst hl
  replace hC : CX Γ cX3_takeSign RX3 LAY 1 3 := hC
  dsimp only [LandReader_takeSign] at hf
  refine GX_aload_n hC dX3_takeSign_0 rfl ?_
  refine GX_aload_n hC dX3_takeSign_1 rfl ?_
  refine GX_getI hC fkX3_9 ol_23 rfl dX3_takeSign_2 ?_
  obtain ⟨r4, e5, h6⟩ := ob hf
  refine GX_callV_i (st := []) hC (C_Shelf_at hp_text1 e5) okX8_at lkX3_44 (olShelf hp_text1) rfl rfl (Nat.le_of_ble_eq_true rfl) (Nat.le_of_ble_eq_true rfl) hk rfl (Nat.le_of_ble_eq_true rfl) dX3_takeSign_5 ?_
  refine GX_iload_n hC dX3_takeSign_8 rfl ?_
  refine GX_icmp_eq_N hC 14 dX3_takeSign_9 (by decide) (fun q => ?_) (fun q => ?_)
  · skip
    have h7 := ifP q h6
    refine GX_iconst hC (bI false) dX3_takeSign_12 rfl ?_
    exact GX_zretW hC false hR dX3_takeSign_13 (oi h7)
  · skip
    have h8 := ifN q h6
    refine GX_aload_n hC dX3_takeSign_14 rfl ?_
    refine GX_dup hC dX3_takeSign_15 rfl ?_
    refine GX_getI hC fkX3_9 ol_23 rfl dX3_takeSign_16 ?_
    refine GX_iconst hC 1 dX3_takeSign_19 rfl ?_
    refine GX_iadd hC dX3_takeSign_20 ?_
    obtain ⟨m9, e10, h11⟩ := ob h8
    refine GX_stF hC e10 fkX3_9 ftX3_0 ol_23 rfl dX3_takeSign_21 ?_
    refine GX_iconst hC (bI true) dX3_takeSign_24 rfl ?_
    exact GX_zretW hC true hR dX3_takeSign_25 (oi h11)
set_option maxRecDepth 100000 in
set_option maxHeartbeats 4000000 in
theorem C_LandReader_takeKin {l : Launch} {text1 : Nat} {m2 : MI} {r0 : Bool} {mr : MI} (hp_text1 : isShelf text1) (hf : LandReader_takeKin text1 m2 = some (r0, mr)) : Cn l yX3_takeKin cX3_takeKin 2 (some .boolean) 2 LAY (fun ad => .ref (ad 23) :: [.ref (ad text1)]) m2 (fun _ => some (.int (bI r0))) mr := by
  refine Cn.of (fun ad => [some (.ref (ad 23)), some (.ref (ad text1))]) (by decide +kernel) (fun _ => rfl) (fun _ => Nat.le_of_ble_eq_true rfl) (fun Γ hl hC hR hk => ?_)
  subst hl
  replace hC : CX Γ cX3_takeKin RX3 LAY 2 2 := hC
  dsimp only [LandReader_takeKin] at hf
  refine GX_aload_n hC dX3_takeKin_0 rfl ?_
  refine GX_aload_n hC dX3_takeKin_1 rfl ?_
  refine GX_aload_n hC dX3_takeKin_2 rfl ?_
  refine GX_bipush hC 107 dX3_takeKin_3 rfl ?_
  obtain ⟨⟨b3, m4⟩, e5, h6⟩ := ob hf
  refine GX_callV_i (st := [.ref (gad Γ 23)]) hC (C_LandReader_takeSign hp_text1 e5) okX3_takeSign lkX3_54 ol_23 rfl rfl (Nat.le_of_ble_eq_true rfl) (Nat.le_of_ble_eq_true rfl) hk rfl (Nat.le_of_ble_eq_true rfl) dX3_takeKin_5 ?_
  obtain ⟨m7, e8, h9⟩ := ob h6
  refine GX_stZ hC e8 fkX3_27 ftX3_5 ol_23 rfl dX3_takeKin_8 ?_
  obtain ⟨⟨c10, m11⟩, e12, h13⟩ := ob h9
  suffices hJ14 : GX Γ LAY 0 0 [some (.ref (gad Γ 23)), some (.ref (gad Γ text1))] [.int (bI c10)] m11 32 by
    have hc15 : ∀ m16 : MI, (true, m16) = (c10, m11) → GX Γ LAY 0 0 [some (.ref (gad Γ 23)), some (.ref (gad Γ text1))] [] m16 27 := by
      intro m16 q
      cases q
      refine GX_iconst hC (bI true) dX3_takeKin_27 rfl ?_
      refine GX_goto hC 32 dX3_takeKin_28 (by decide) ?_
      exact hJ14
    have hc17 : ∀ m18 : MI, (false, m18) = (c10, m11) → GX Γ LAY 0 0 [some (.ref (gad Γ 23)), some (.ref (gad Γ text1))] [] m18 31 := by
      intro m18 q
      cases q
      refine GX_iconst hC (bI false) dX3_takeKin_31 rfl ?_
      exact hJ14
    refine GX_aload_n hC dX3_takeKin_11 rfl ?_
    obtain ⟨b19, e20, h21⟩ := ob e12
    refine GX_ldZ hC e20 fkX3_27 ol_23 rfl dX3_takeKin_12 ?_
    refine GX_ifb_eq hC 27 dX3_takeKin_15 (by decide) (fun q => ?_) (fun q => ?_)
    · skip
      have h22 := ifT q h21
      refine GX_aload_n hC dX3_takeKin_18 rfl ?_
      refine GX_aload_n hC dX3_takeKin_19 rfl ?_
      refine GX_iconst hC 1 dX3_takeKin_20 rfl ?_
      obtain ⟨⟨b23, m24⟩, e25, h26⟩ := ob h22
      refine GX_callV_i (st := []) hC (C_LandReader_takeDigits hp_text1 e25) okX3_takeDigits lkX3_58 ol_23 rfl rfl (Nat.le_of_ble_eq_true rfl) (Nat.le_of_ble_eq_true rfl) hk rfl (Nat.le_of_ble_eq_true rfl) dX3_takeKin_21 ?_
      refine GX_ifb_eq hC 31 dX3_takeKin_24 (by decide) (fun q => ?_) (fun q => ?_)
      · skip
        exact hc15 _ (mbT q h26)
      · skip
        exact hc17 _ (mbF q h26)
    · skip
      have h27 := ifF q h21
      exact hc15 _ (oi h27)
  exact GX_zretW hC c10 hR dX3_takeKin_32 (oi h13)
set_option maxRecDepth 100000 in
set_option maxHeartbeats 4000000 in
theorem C_LandReader_takeLane {l : Launch} {text1 : Nat} {m2 : MI} {r0 : Bool} {mr : MI} (hp_text1 : isShelf text1) (hf : LandReader_takeLane text1 m2 = some (r0, mr)) : Cn l yX3_takeLane cX3_takeLane 2 (some .boolean) 2 LAY (fun ad => .ref (ad 23) :: [.ref (ad text1)]) m2 (fun _ => some (.int (bI r0))) mr := by
  refine Cn.of (fun ad => [some (.ref (ad 23)), some (.ref (ad text1))]) (by decide +kernel) (fun _ => rfl) (fun _ => Nat.le_of_ble_eq_true rfl) (fun Γ hl hC hR hk => ?_)
  subst hl
  replace hC : CX Γ cX3_takeLane RX3 LAY 2 2 := hC
  dsimp only [LandReader_takeLane] at hf
  refine GX_aload_n hC dX3_takeLane_0 rfl ?_
  refine GX_aload_n hC dX3_takeLane_1 rfl ?_
  refine GX_aload_n hC dX3_takeLane_2 rfl ?_
  refine GX_bipush hC 108 dX3_takeLane_3 rfl ?_
  obtain ⟨⟨b3, m4⟩, e5, h6⟩ := ob hf
  refine GX_callV_i (st := [.ref (gad Γ 23)]) hC (C_LandReader_takeSign hp_text1 e5) okX3_takeSign lkX3_54 ol_23 rfl rfl (Nat.le_of_ble_eq_true rfl) (Nat.le_of_ble_eq_true rfl) hk rfl (Nat.le_of_ble_eq_true rfl) dX3_takeLane_5 ?_
  obtain ⟨m7, e8, h9⟩ := ob h6
  refine GX_stZ hC e8 fkX3_27 ftX3_5 ol_23 rfl dX3_takeLane_8 ?_
  refine GX_iconst hC (bI true) dX3_takeLane_11 rfl ?_
  exact GX_zretW hC true hR dX3_takeLane_12 (oi h9)
set_option maxRecDepth 100000 in
set_option maxHeartbeats 4000000 in
theorem C_LandReader_takeBehindLetter {l : Launch} {text1 : Nat} {m2 : MI} {r0 : Bool} {mr : MI} (hp_text1 : isShelf text1) (hf : LandReader_takeBehindLetter text1 m2 = some (r0, mr)) : Cn l yX3_takeBehindLetter cX3_takeBehindLetter 2 (some .boolean) 3 LAY (fun ad => .ref (ad 23) :: [.ref (ad text1)]) m2 (fun _ => some (.int (bI r0))) mr := by
  refine Cn.of (fun ad => [some (.ref (ad 23)), some (.ref (ad text1))]) (by decide +kernel) (fun _ => rfl) (fun _ => Nat.le_of_ble_eq_true rfl) (fun Γ hl hC hR hk => ?_)
  subst hl
  replace hC : CX Γ cX3_takeBehindLetter RX3 LAY 3 2 := hC
  dsimp only [LandReader_takeBehindLetter] at hf
  refine GX_aload_n hC dX3_takeBehindLetter_0 rfl ?_
  refine GX_getI hC fkX3_15 ol_23 rfl dX3_takeBehindLetter_1 ?_
  obtain ⟨w3, e4, h5⟩ := ob hf
  refine GX_nm (oi e4) ?_
  by_cases q0 : w3 = 102
  · skip
    have h6 := ifP q0 h5
    refine GX_lookup hC 48 dX3_takeBehindLetter_4 (by decide) (by rw [q0]; first | done | rfl) (by decide) ?_
    refine GX_aload_n hC dX3_takeBehindLetter_48 rfl ?_
    refine GX_aload_n hC dX3_takeBehindLetter_49 rfl ?_
    refine GX_iconst hC 1 dX3_takeBehindLetter_50 rfl ?_
    obtain ⟨⟨b7, m8⟩, e9, h10⟩ := ob h6
    refine GX_callV_i (st := []) hC (C_LandReader_takeDigits hp_text1 e9) okX3_takeDigits lkX3_58 ol_23 rfl rfl (Nat.le_of_ble_eq_true rfl) (Nat.le_of_ble_eq_true rfl) hk rfl (Nat.le_of_ble_eq_true rfl) dX3_takeBehindLetter_51 ?_
    exact GX_zretW hC b7 hR dX3_takeBehindLetter_54 (oi h10)
  · skip
    have h11 := ifN q0 h5
    by_cases q1 : w3 = 104
    · skip
      have h12 := ifP q1 h11
      refine GX_lookup hC 55 dX3_takeBehindLetter_4 (by decide) (by rw [q1]; first | done | rfl) (by decide) ?_
      obtain ⟨⟨c13, m14⟩, e15, h16⟩ := ob h12
      suffices hJ17 : GX Γ LAY 0 0 [some (.ref (gad Γ 23)), some (.ref (gad Γ text1))] [.int (bI c13)] m14 77 by
        have hc18 : ∀ m19 : MI, (true, m19) = (c13, m14) → GX Γ LAY 0 0 [some (.ref (gad Γ 23)), some (.ref (gad Γ text1))] [] m19 72 := by
          intro m19 q
          cases q
          refine GX_iconst hC (bI true) dX3_takeBehindLetter_72 rfl ?_
          refine GX_goto hC 77 dX3_takeBehindLetter_73 (by decide) ?_
          exact hJ17
        have hc20 : ∀ m21 : MI, (false, m21) = (c13, m14) → GX Γ LAY 0 0 [some (.ref (gad Γ 23)), some (.ref (gad Γ text1))] [] m21 76 := by
          intro m21 q
          cases q
          refine GX_iconst hC (bI false) dX3_takeBehindLetter_76 rfl ?_
          exact hJ17
        refine GX_aload_n hC dX3_takeBehindLetter_55 rfl ?_
        refine GX_aload_n hC dX3_takeBehindLetter_56 rfl ?_
        refine GX_iconst hC 2 dX3_takeBehindLetter_57 rfl ?_
        obtain ⟨⟨b22, m23⟩, e24, h25⟩ := ob e15
        refine GX_callV_i (st := []) hC (C_LandReader_takeDigits hp_text1 e24) okX3_takeDigits lkX3_58 ol_23 rfl rfl (Nat.le_of_ble_eq_true rfl) (Nat.le_of_ble_eq_true rfl) hk rfl (Nat.le_of_ble_eq_true rfl) dX3_takeBehindLetter_58 ?_
        refine GX_ifb_eq hC 76 dX3_takeBehindLetter_61 (by decide) (fun q => ?_) (fun q => ?_)
        · skip
          have h26 := ifT q h25
          refine GX_aload_n hC dX3_takeBehindLetter_64 rfl ?_
          refine GX_aload_n hC dX3_takeBehindLetter_65 rfl ?_
          obtain ⟨⟨b27, m28⟩, e29, h30⟩ := ob h26
          refine GX_callV_i (st := []) hC (C_LandReader_takeLane hp_text1 e29) okX3_takeLane lkX3_61 ol_23 rfl rfl (Nat.le_of_ble_eq_true rfl) (Nat.le_of_ble_eq_true rfl) hk rfl (Nat.le_of_ble_eq_true rfl) dX3_takeBehindLetter_66 ?_
          refine GX_ifb_eq hC 76 dX3_takeBehindLetter_69 (by decide) (fun q => ?_) (fun q => ?_)
          · skip
            exact hc18 _ (mbT q h30)
          · skip
            exact hc20 _ (mbF q h30)
        · skip
          have h31 := ifF q h25
          exact hc20 _ (oi h31)
      exact GX_zretW hC c13 hR dX3_takeBehindLetter_77 (oi h16)
    · skip
      have h32 := ifN q1 h11
      by_cases q2 : w3 = 112
      · skip
        have h33 := ifP q2 h32
        refine GX_lookup hC 78 dX3_takeBehindLetter_4 (by decide) (by rw [q2]; first | done | rfl) (by decide) ?_
        obtain ⟨⟨c34, m35⟩, e36, h37⟩ := ob h33
        suffices hJ38 : GX Γ LAY 0 0 [some (.ref (gad Γ 23)), some (.ref (gad Γ text1))] [.int (bI c34)] m35 100 by
          have hc39 : ∀ m40 : MI, (true, m40) = (c34, m35) → GX Γ LAY 0 0 [some (.ref (gad Γ 23)), some (.ref (gad Γ text1))] [] m40 95 := by
            intro m40 q
            cases q
            refine GX_iconst hC (bI true) dX3_takeBehindLetter_95 rfl ?_
            refine GX_goto hC 100 dX3_takeBehindLetter_96 (by decide) ?_
            exact hJ38
          have hc41 : ∀ m42 : MI, (false, m42) = (c34, m35) → GX Γ LAY 0 0 [some (.ref (gad Γ 23)), some (.ref (gad Γ text1))] [] m42 99 := by
            intro m42 q
            cases q
            refine GX_iconst hC (bI false) dX3_takeBehindLetter_99 rfl ?_
            exact hJ38
          refine GX_aload_n hC dX3_takeBehindLetter_78 rfl ?_
          refine GX_aload_n hC dX3_takeBehindLetter_79 rfl ?_
          refine GX_iconst hC 3 dX3_takeBehindLetter_80 rfl ?_
          obtain ⟨⟨b43, m44⟩, e45, h46⟩ := ob e36
          refine GX_callV_i (st := []) hC (C_LandReader_takeFigure hp_text1 e45) okX3_takeFigure lkX3_64 ol_23 rfl rfl (Nat.le_of_ble_eq_true rfl) (Nat.le_of_ble_eq_true rfl) hk rfl (Nat.le_of_ble_eq_true rfl) dX3_takeBehindLetter_81 ?_
          refine GX_ifb_eq hC 99 dX3_takeBehindLetter_84 (by decide) (fun q => ?_) (fun q => ?_)
          · skip
            have h47 := ifT q h46
            refine GX_aload_n hC dX3_takeBehindLetter_87 rfl ?_
            refine GX_aload_n hC dX3_takeBehindLetter_88 rfl ?_
            obtain ⟨⟨b48, m49⟩, e50, h51⟩ := ob h47
            refine GX_callV_i (st := []) hC (C_LandReader_takeKin hp_text1 e50) okX3_takeKin lkX3_67 ol_23 rfl rfl (Nat.le_of_ble_eq_true rfl) (Nat.le_of_ble_eq_true rfl) hk rfl (Nat.le_of_ble_eq_true rfl) dX3_takeBehindLetter_89 ?_
            refine GX_ifb_eq hC 99 dX3_takeBehindLetter_92 (by decide) (fun q => ?_) (fun q => ?_)
            · skip
              exact hc39 _ (mbT q h51)
            · skip
              exact hc41 _ (mbF q h51)
          · skip
            have h52 := ifF q h46
            exact hc41 _ (oi h52)
        exact GX_zretW hC c34 hR dX3_takeBehindLetter_100 (oi h37)
      · skip
        have h53 := ifN q2 h32
        by_cases q3 : w3 = 119
        · skip
          have h54 := ifP q3 h53
          refine GX_lookup hC 101 dX3_takeBehindLetter_4 (by decide) (by rw [q3]; first | done | rfl) (by decide) ?_
          obtain ⟨⟨c55, m56⟩, e57, h58⟩ := ob h54
          suffices hJ59 : GX Γ LAY 0 0 [some (.ref (gad Γ 23)), some (.ref (gad Γ text1))] [.int (bI c55)] m56 134 by
            have hc60 : ∀ m61 : MI, (true, m61) = (c55, m56) → GX Γ LAY 0 0 [some (.ref (gad Γ 23)), some (.ref (gad Γ text1))] [] m61 129 := by
              intro m61 q
              cases q
              refine GX_iconst hC (bI true) dX3_takeBehindLetter_129 rfl ?_
              refine GX_goto hC 134 dX3_takeBehindLetter_130 (by decide) ?_
              exact hJ59
            have hc62 : ∀ m63 : MI, (false, m63) = (c55, m56) → GX Γ LAY 0 0 [some (.ref (gad Γ 23)), some (.ref (gad Γ text1))] [] m63 133 := by
              intro m63 q
              cases q
              refine GX_iconst hC (bI false) dX3_takeBehindLetter_133 rfl ?_
              exact hJ59
            refine GX_aload_n hC dX3_takeBehindLetter_101 rfl ?_
            refine GX_aload_n hC dX3_takeBehindLetter_102 rfl ?_
            refine GX_iconst hC 2 dX3_takeBehindLetter_103 rfl ?_
            obtain ⟨⟨b64, m65⟩, e66, h67⟩ := ob e57
            refine GX_callV_i (st := []) hC (C_LandReader_takeDigits hp_text1 e66) okX3_takeDigits lkX3_58 ol_23 rfl rfl (Nat.le_of_ble_eq_true rfl) (Nat.le_of_ble_eq_true rfl) hk rfl (Nat.le_of_ble_eq_true rfl) dX3_takeBehindLetter_104 ?_
            refine GX_ifb_eq hC 133 dX3_takeBehindLetter_107 (by decide) (fun q => ?_) (fun q => ?_)
            · skip
              have h68 := ifT q h67
              refine GX_aload_n hC dX3_takeBehindLetter_110 rfl ?_
              refine GX_aload_n hC dX3_takeBehindLetter_111 rfl ?_
              refine GX_bipush hC 32 dX3_takeBehindLetter_112 rfl ?_
              obtain ⟨⟨b69, m70⟩, e71, h72⟩ := ob h68
              refine GX_callV_i (st := []) hC (C_LandReader_takeSign hp_text1 e71) okX3_takeSign lkX3_54 ol_23 rfl rfl (Nat.le_of_ble_eq_true rfl) (Nat.le_of_ble_eq_true rfl) hk rfl (Nat.le_of_ble_eq_true rfl) dX3_takeBehindLetter_114 ?_
              refine GX_ifb_eq hC 133 dX3_takeBehindLetter_117 (by decide) (fun q => ?_) (fun q => ?_)
              · skip
                have h73 := ifT q h72
                refine GX_aload_n hC dX3_takeBehindLetter_120 rfl ?_
                refine GX_aload_n hC dX3_takeBehindLetter_121 rfl ?_
                refine GX_iconst hC 2 dX3_takeBehindLetter_122 rfl ?_
                obtain ⟨⟨b74, m75⟩, e76, h77⟩ := ob h73
                refine GX_callV_i (st := []) hC (C_LandReader_takeFigure hp_text1 e76) okX3_takeFigure lkX3_64 ol_23 rfl rfl (Nat.le_of_ble_eq_true rfl) (Nat.le_of_ble_eq_true rfl) hk rfl (Nat.le_of_ble_eq_true rfl) dX3_takeBehindLetter_123 ?_
                refine GX_ifb_eq hC 133 dX3_takeBehindLetter_126 (by decide) (fun q => ?_) (fun q => ?_)
                · skip
                  exact hc60 _ (mbT q h77)
                · skip
                  exact hc62 _ (mbF q h77)
              · skip
                have h78 := ifF q h72
                exact hc62 _ (oi h78)
            · skip
              have h79 := ifF q h67
              exact hc62 _ (oi h79)
          exact GX_zretW hC c55 hR dX3_takeBehindLetter_134 (oi h58)
        · skip
          have h80 := ifN q3 h53
          refine GX_lookup (off := 131) hC 135 dX3_takeBehindLetter_4 (by decide) (by have n0 := sw_ne q0 (z := 102) rfl; have n1 := sw_ne q1 (z := 104) rfl; have n2 := sw_ne q2 (z := 112) rfl; have n3 := sw_ne q3 (z := 119) rfl; simp [Op.lookupswitch.offset, n0, Ne.symm n0, n1, Ne.symm n1, n2, Ne.symm n2, n3, Ne.symm n3]) (by decide) ?_
          refine GX_aload_n hC dX3_takeBehindLetter_135 rfl ?_
          refine GX_aload_n hC dX3_takeBehindLetter_136 rfl ?_
          refine GX_iconst hC 2 dX3_takeBehindLetter_137 rfl ?_
          obtain ⟨⟨b81, m82⟩, e83, h84⟩ := ob h80
          refine GX_callV_i (st := []) hC (C_LandReader_takeDigits hp_text1 e83) okX3_takeDigits lkX3_58 ol_23 rfl rfl (Nat.le_of_ble_eq_true rfl) (Nat.le_of_ble_eq_true rfl) hk rfl (Nat.le_of_ble_eq_true rfl) dX3_takeBehindLetter_138 ?_
          exact GX_zretW hC b81 hR dX3_takeBehindLetter_141 (oi h84)
set_option maxRecDepth 100000 in
set_option maxHeartbeats 4000000 in
theorem C_LandReader_takeStatement {l : Launch} {text1 : Nat} {m2 : MI} {r0 : Bool} {mr : MI} (hp_text1 : isShelf text1) (hf : LandReader_takeStatement text1 m2 = some (r0, mr)) : Cn l yX3_takeStatement cX3_takeStatement 2 (some .boolean) 4 LAY (fun ad => .ref (ad 23) :: [.ref (ad text1)]) m2 (fun _ => some (.int (bI r0))) mr := by
  refine Cn.of (fun ad => [some (.ref (ad 23)), some (.ref (ad text1))]) (by decide +kernel) (fun _ => rfl) (fun _ => Nat.le_of_ble_eq_true rfl) (fun Γ hl hC hR hk => ?_)
  subst hl
  replace hC : CX Γ cX3_takeStatement RX3 LAY 4 2 := hC
  dsimp only [LandReader_takeStatement] at hf
  refine GX_aload_n hC dX3_takeStatement_0 rfl ?_
  refine GX_aload_n hC dX3_takeStatement_1 rfl ?_
  refine GX_aload_n hC dX3_takeStatement_2 rfl ?_
  refine GX_getI hC fkX3_9 ol_23 rfl dX3_takeStatement_3 ?_
  obtain ⟨r3, e4, h5⟩ := ob hf
  refine GX_callV_i (st := [.ref (gad Γ 23)]) hC (C_Shelf_at hp_text1 e4) okX8_at lkX3_44 (olShelf hp_text1) rfl rfl (Nat.le_of_ble_eq_true rfl) (Nat.le_of_ble_eq_true rfl) hk rfl (Nat.le_of_ble_eq_true rfl) dX3_takeStatement_6 ?_
  obtain ⟨m6, e7, h8⟩ := ob h5
  refine GX_stF hC e7 fkX3_15 ftX3_1 ol_23 rfl dX3_takeStatement_9 ?_
  refine GX_aload_n hC dX3_takeStatement_12 rfl ?_
  obtain ⟨b9, e10, h11⟩ := ob h8
  refine GX_callV_i (st := []) hC (C_LandReader_isLetter e10) okX3_isLetter lkX3_47 ol_23 rfl rfl (Nat.le_of_ble_eq_true rfl) (Nat.le_of_ble_eq_true rfl) hk rfl (Nat.le_of_ble_eq_true rfl) dX3_takeStatement_13 ?_
  refine GX_ifb_ne hC 21 dX3_takeStatement_16 (by decide) (fun q => ?_) (fun q => ?_)
  · skip
    have h12 := ifT q h11
    refine GX_aload_n hC dX3_takeStatement_21 rfl ?_
    refine GX_dup hC dX3_takeStatement_22 rfl ?_
    refine GX_getI hC fkX3_9 ol_23 rfl dX3_takeStatement_23 ?_
    refine GX_iconst hC 1 dX3_takeStatement_26 rfl ?_
    refine GX_iadd hC dX3_takeStatement_27 ?_
    obtain ⟨m13, e14, h15⟩ := ob h12
    refine GX_stF hC e14 fkX3_9 ftX3_0 ol_23 rfl dX3_takeStatement_28 ?_
    obtain ⟨⟨c16, m17⟩, e18, h19⟩ := ob h15
    suffices hJ20 : GX Γ LAY 0 0 [some (.ref (gad Γ 23)), some (.ref (gad Γ text1))] [.int (bI c16)] m17 54 by
      have hc21 : ∀ m22 : MI, (true, m22) = (c16, m17) → GX Γ LAY 0 0 [some (.ref (gad Γ 23)), some (.ref (gad Γ text1))] [] m22 49 := by
        intro m22 q
        cases q
        refine GX_iconst hC (bI true) dX3_takeStatement_49 rfl ?_
        refine GX_goto hC 54 dX3_takeStatement_50 (by decide) ?_
        exact hJ20
      have hc23 : ∀ m24 : MI, (false, m24) = (c16, m17) → GX Γ LAY 0 0 [some (.ref (gad Γ 23)), some (.ref (gad Γ text1))] [] m24 53 := by
        intro m24 q
        cases q
        refine GX_iconst hC (bI false) dX3_takeStatement_53 rfl ?_
        exact hJ20
      refine GX_aload_n hC dX3_takeStatement_31 rfl ?_
      refine GX_aload_n hC dX3_takeStatement_32 rfl ?_
      obtain ⟨⟨b25, m26⟩, e27, h28⟩ := ob e18
      refine GX_callV_i (st := []) hC (C_LandReader_takeBehindLetter hp_text1 e27) okX3_takeBehindLetter lkX3_51 ol_23 rfl rfl (Nat.le_of_ble_eq_true rfl) (Nat.le_of_ble_eq_true rfl) hk rfl (Nat.le_of_ble_eq_true rfl) dX3_takeStatement_33 ?_
      refine GX_ifb_eq hC 53 dX3_takeStatement_36 (by decide) (fun q => ?_) (fun q => ?_)
      · skip
        have h29 := ifT q h28
        refine GX_aload_n hC dX3_takeStatement_39 rfl ?_
        refine GX_aload_n hC dX3_takeStatement_40 rfl ?_
        refine GX_bipush hC 59 dX3_takeStatement_41 rfl ?_
        obtain ⟨⟨b30, m31⟩, e32, h33⟩ := ob h29
        refine GX_callV_i (st := []) hC (C_LandReader_takeSign hp_text1 e32) okX3_takeSign lkX3_54 ol_23 rfl rfl (Nat.le_of_ble_eq_true rfl) (Nat.le_of_ble_eq_true rfl) hk rfl (Nat.le_of_ble_eq_true rfl) dX3_takeStatement_43 ?_
        refine GX_ifb_eq hC 53 dX3_takeStatement_46 (by decide) (fun q => ?_) (fun q => ?_)
        · skip
          exact hc21 _ (mbT q h33)
        · skip
          exact hc23 _ (mbF q h33)
      · skip
        have h34 := ifF q h28
        exact hc23 _ (oi h34)
    exact GX_zretW hC c16 hR dX3_takeStatement_54 (oi h19)
  · skip
    have h35 := ifF q h11
    refine GX_iconst hC (bI false) dX3_takeStatement_19 rfl ?_
    exact GX_zretW hC false hR dX3_takeStatement_20 (oi h35)
set_option maxRecDepth 100000 in
set_option maxHeartbeats 4000000 in
theorem C_LandReader_carryOut {l : Launch} {land1 : Nat} {text2 : Nat} {statements3 : Int32} {m4 : MI} {r0 : Int32} {mr : MI} (hp_land1 : isLand land1) (hp_text2 : isShelf text2) (hf : LandReader_carryOut land1 text2 statements3 m4 = some (r0, mr)) : Cn l yX3_carryOut cX3_carryOut 6 (some .int) 5 LAY (fun ad => .ref (ad 23) :: [.ref (ad land1), .ref (ad text2), .int statements3]) m4 (fun _ => some (.int r0)) mr := by
  refine Cn.of (fun ad => [some (.ref (ad 23)), some (.ref (ad land1)), some (.ref (ad text2)), some (.int statements3), none, none]) (by decide +kernel) (fun _ => rfl) (fun _ => Nat.le_of_ble_eq_true rfl) (fun Γ hl hC hR hk => ?_)
  subst hl
  replace hC : CX Γ cX3_carryOut RX3 LAY 5 6 := hC
  dsimp only [LandReader_carryOut] at hf
  refine GX_aload_n hC dX3_carryOut_0 rfl ?_
  refine GX_iconst hC 0 dX3_carryOut_1 rfl ?_
  obtain ⟨m5, e6, h7⟩ := ob hf
  refine GX_stF hC e6 fkX3_9 ftX3_0 ol_23 rfl dX3_carryOut_2 ?_
  refine GX_iconst hC 0 dX3_carryOut_5 rfl ?_
  refine GX_istore hC [some (.ref (gad Γ 23)), some (.ref (gad Γ land1)), some (.ref (gad Γ text2)), some (.int statements3), some (.int 0), none] dX3_carryOut_6 (by decide) rfl rfl ?_
  obtain ⟨o8, e9, h10⟩ := ob h7
  have hR11 : ∀ res : Int32 × MI, Sum.inr res = o8 → res = (r0, mr) := by
    intro res q
    subst q
    have h10 := seR h10
    exact (oi h10)
  suffices hJ11 : ∀ (m14 : MI), Sum.inl m14 = o8 → GX Γ LAY 0 0 [some (.ref (gad Γ 23)), some (.ref (gad Γ land1)), some (.ref (gad Γ text2)), some (.int statements3), none, none] [] m14 47 by
    refine lp_walk (P := fun s => GX Γ LAY 0 0 [some (.ref (gad Γ 23)), some (.ref (gad Γ land1)), some (.ref (gad Γ text2)), some (.int statements3), some (.int s.1), none] [] s.2 8) (fun s x hx11 hI11 hO11 => ?_) _ _ e9
    obtain ⟨n12, m13⟩ := s
    show GX Γ LAY 0 0 [some (.ref (gad Γ 23)), some (.ref (gad Γ land1)), some (.ref (gad Γ text2)), some (.int statements3), some (.int n12), none] [] m13 8
    dsimp only [LandReader_carryOut_s1] at hx11
    refine GX_iload hC dX3_carryOut_8 rfl ?_
    refine GX_iload_n hC dX3_carryOut_10 rfl ?_
    refine GX_icmp_ge_N hC 47 dX3_carryOut_11 (by decide) (fun q => ?_) (fun q => ?_)
    · skip
      have h15 := ifP q hx11
      refine GX_aload_n hC dX3_carryOut_14 rfl ?_
      refine GX_getI hC fkX3_9 ol_23 rfl dX3_carryOut_15 ?_
      obtain ⟨place16, e17, h18⟩ := ob h15
      refine GX_nm (oi e17) ?_
      refine GX_istore hC [some (.ref (gad Γ 23)), some (.ref (gad Γ land1)), some (.ref (gad Γ text2)), some (.int statements3), some (.int n12), some (.int place16)] dX3_carryOut_18 (by decide) rfl rfl ?_
      refine GX_aload_n hC dX3_carryOut_20 rfl ?_
      refine GX_aload_n hC dX3_carryOut_21 rfl ?_
      obtain ⟨⟨b19, m20⟩, e21, h22⟩ := ob h18
      refine GX_callV_i (st := []) hC (C_LandReader_takeStatement hp_text2 e21) okX3_takeStatement lkX3_36 ol_23 rfl rfl (Nat.le_of_ble_eq_true rfl) (Nat.le_of_ble_eq_true rfl) hk rfl (Nat.le_of_ble_eq_true rfl) dX3_carryOut_22 ?_
      refine GX_pop hC dX3_carryOut_25 rfl ?_
      refine GX_aload_n hC dX3_carryOut_26 rfl ?_
      refine GX_aload_n hC dX3_carryOut_27 rfl ?_
      obtain ⟨⟨b23, m24⟩, e25, h26⟩ := ob h22
      refine GX_callV_i (st := []) hC (C_LandReader_carryOutOne hp_land1 e25) okX3_carryOutOne lkX3_40 ol_23 rfl rfl (Nat.le_of_ble_eq_true rfl) (Nat.le_of_ble_eq_true rfl) hk rfl (Nat.le_of_ble_eq_true rfl) dX3_carryOut_28 ?_
      refine GX_ifb_ne hC 41 dX3_carryOut_31 (by decide) (fun q => ?_) (fun q => ?_)
      · skip
        have h27 := ifT q h26
        obtain ⟨i28, e29, h30⟩ := ob h27
        refine GX_iinc hC i28 [some (.ref (gad Γ 23)), some (.ref (gad Γ land1)), some (.ref (gad Γ text2)), some (.int statements3), some (.int i28), some (.int place16)] dX3_carryOut_41 rfl (oi e29) (by decide) rfl rfl ?_
        refine GX_goto hC 8 dX3_carryOut_44 (by decide) ?_
        exact GX.le (hI11 _ (oi h30).symm) ⟨rfl, ⟨rfl, ⟨rfl, ⟨rfl, ⟨rfl, trivial⟩⟩⟩⟩⟩
      · skip
        have h31 := ifF q h26
        refine GX_sipush hC (-2000) dX3_carryOut_34 rfl ?_
        refine GX_iload hC dX3_carryOut_37 rfl ?_
        refine GX_isub hC dX3_carryOut_39 ?_
        exact GX_iretW hC hR dX3_carryOut_40 (hR11 _ (hO11 _ (oi h31).symm))
    · skip
      have h32 := ifN q hx11
      exact GX.le (hJ11 _ (hO11 _ (oi h32).symm)) ⟨rfl, ⟨rfl, ⟨rfl, ⟨rfl, trivial⟩⟩⟩⟩
  intro m14 q33
  subst q33
  have h10 := seL h10
  refine GX_iconst hC 0 dX3_carryOut_47 rfl ?_
  exact GX_iretW hC hR dX3_carryOut_48 (oi h10)
set_option maxRecDepth 100000 in
set_option maxHeartbeats 4000000 in
theorem C_LandReader_countStatements {l : Launch} {text1 : Nat} {m2 : MI} {r0 : Int32} {mr : MI} (hp_text1 : isShelf text1) (hf : LandReader_countStatements text1 m2 = some (r0, mr)) : Cn l yX3_countStatements cX3_countStatements 3 (some .int) 5 LAY (fun ad => .ref (ad 23) :: [.ref (ad text1)]) m2 (fun _ => some (.int r0)) mr := by
  refine Cn.of (fun ad => [some (.ref (ad 23)), some (.ref (ad text1)), none]) (by decide +kernel) (fun _ => rfl) (fun _ => Nat.le_of_ble_eq_true rfl) (fun Γ hl hC hR hk => ?_)
  subst hl
  replace hC : CX Γ cX3_countStatements RX3 LAY 5 3 := hC
  dsimp only [LandReader_countStatements] at hf
  refine GX_aload_n hC dX3_countStatements_0 rfl ?_
  refine GX_iconst hC 0 dX3_countStatements_1 rfl ?_
  obtain ⟨m3, e4, h5⟩ := ob hf
  refine GX_stF hC e4 fkX3_9 ftX3_0 ol_23 rfl dX3_countStatements_2 ?_
  refine GX_iconst hC 0 dX3_countStatements_5 rfl ?_
  refine GX_istore_n hC [some (.ref (gad Γ 23)), some (.ref (gad Γ text1)), some (.int 0)] dX3_countStatements_6 (by decide) rfl rfl ?_
  obtain ⟨o6, e7, h8⟩ := ob h5
  have hR9 : ∀ res : Int32 × MI, Sum.inr res = o6 → res = (r0, mr) := by
    intro res q
    subst q
    have h8 := seR h8
    exact (oi h8)
  suffices hJ9 : ∀ (statements12 : Int32) (m13 : MI), Sum.inl (statements12, m13) = o6 → GX Γ LAY 0 0 [some (.ref (gad Γ 23)), some (.ref (gad Γ text1)), some (.int statements12)] [] m13 53 by
    refine lp_walk (P := fun s => GX Γ LAY 0 0 [some (.ref (gad Γ 23)), some (.ref (gad Γ text1)), some (.int s.1)] [] s.2 7) (fun s x hx9 hI9 hO9 => ?_) _ _ e7
    obtain ⟨statements10, m11⟩ := s
    show GX Γ LAY 0 0 [some (.ref (gad Γ 23)), some (.ref (gad Γ text1)), some (.int statements10)] [] m11 7
    dsimp only [LandReader_countStatements_s1] at hx9
    obtain ⟨c14, e15, h16⟩ := ob hx9
    have hc17 : true = c14 → GX Γ LAY 0 0 [some (.ref (gad Γ 23)), some (.ref (gad Γ text1)), some (.int statements10)] [] m11 30 := by
      intro q
      have h18 := ifT q.symm h16
      refine GX_aload_n hC dX3_countStatements_30 rfl ?_
      refine GX_aload_n hC dX3_countStatements_31 rfl ?_
      obtain ⟨⟨b19, m20⟩, e21, h22⟩ := ob h18
      refine GX_callV_i (st := []) hC (C_LandReader_takeStatement hp_text1 e21) okX3_takeStatement lkX3_36 ol_23 rfl rfl (Nat.le_of_ble_eq_true rfl) (Nat.le_of_ble_eq_true rfl) hk rfl (Nat.le_of_ble_eq_true rfl) dX3_countStatements_32 ?_
      refine GX_ifb_ne hC 47 dX3_countStatements_35 (by decide) (fun q => ?_) (fun q => ?_)
      · skip
        have h23 := ifT q h22
        obtain ⟨i24, e25, h26⟩ := ob h23
        refine GX_iinc hC i24 [some (.ref (gad Γ 23)), some (.ref (gad Γ text1)), some (.int i24)] dX3_countStatements_47 rfl (oi e25) (by decide) rfl rfl ?_
        refine GX_goto hC 7 dX3_countStatements_50 (by decide) ?_
        exact hI9 _ (oi h26).symm
      · skip
        have h27 := ifF q h22
        refine GX_sipush hC (-1000) dX3_countStatements_38 rfl ?_
        refine GX_aload_n hC dX3_countStatements_41 rfl ?_
        refine GX_getI hC fkX3_9 ol_23 rfl dX3_countStatements_42 ?_
        refine GX_isub hC dX3_countStatements_45 ?_
        exact GX_iretW hC hR dX3_countStatements_46 (hR9 _ (hO9 _ (oi h27).symm))
    have hc28 : false = c14 → GX Γ LAY 0 0 [some (.ref (gad Γ 23)), some (.ref (gad Γ text1)), some (.int statements10)] [] m11 53 := by
      intro q
      have h29 := ifF q.symm h16
      exact (hJ9 _ _ (hO9 _ (oi h29).symm))
    refine GX_iload_n hC dX3_countStatements_7 rfl ?_
    refine GX_if_eq_P hC 30 dX3_countStatements_8 (by decide) (fun q => ?_) (fun q => ?_)
    · skip
      have h30 := ifP q e15
      exact hc17 (oi h30)
    · skip
      have h31 := ifN q e15
      refine GX_aload_n hC dX3_countStatements_11 rfl ?_
      refine GX_getI hC fkX3_9 ol_23 rfl dX3_countStatements_12 ?_
      refine GX_aload_n hC dX3_countStatements_15 rfl ?_
      refine GX_getI hC fkX3_31 (olShelf hp_text1) rfl dX3_countStatements_16 ?_
      refine GX_icmp_ge_N hC 53 dX3_countStatements_19 (by decide) (fun q => ?_) (fun q => ?_)
      · skip
        have h32 := ifP q h31
        refine GX_iload_n hC dX3_countStatements_22 rfl ?_
        refine GX_aload_n hC dX3_countStatements_23 rfl ?_
        refine GX_getI hC fkX3_31 (olShelf hp_text1) rfl dX3_countStatements_24 ?_
        refine GX_icmp_ge_N hC 53 dX3_countStatements_27 (by decide) (fun q => ?_) (fun q => ?_)
        · skip
          exact hc17 (cdT q h32)
        · skip
          exact hc28 (cdF q h32)
      · skip
        have h33 := ifN q h31
        exact hc28 (oi h33)
  intro statements12 m13 q34
  subst q34
  have h8 := seL h8
  refine GX_iload_n hC dX3_countStatements_53 rfl ?_
  exact GX_iretW hC hR dX3_countStatements_54 (oi h8)
