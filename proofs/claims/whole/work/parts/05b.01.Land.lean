set_option maxRecDepth 100000 in
set_option maxHeartbeats 4000000 in
theorem C_Land_copyFrom {l : Launch} {t : Nat} {other1 : Nat} {m2 : MI} {mr : MI} (ht : isLand t) (hp_other1 : isLand other1) (hf : Land_copyFrom t other1 m2 = some mr) : Cn l yX2_copyFrom cX2_copyFrom 2 none 1 LAY (fun ad => .ref (ad t) :: [.ref (ad other1)]) m2 (fun _ => none) mr := by
  refine Cn.of (fun ad => [some (.ref (ad t)), some (.ref (ad other1))]) (by decide +kernel) (fun _ => rfl) (fun _ => Nat.le_of_ble_eq_true rfl) (fun Γ hl hC hR hk => ?_)
  subst hl
  replace hC : CX Γ cX2_copyFrom RX2 LAY 1 2 := hC
  dsimp only [Land_copyFrom] at hf
  refine GX_aload_n hC dX2_copyFrom_0 rfl ?_
  refine GX_aload_n hC dX2_copyFrom_1 rfl ?_
  refine GX_getI hC fkX2_9 (olLand hp_other1) rfl dX2_copyFrom_2 ?_
  obtain ⟨m3, e4, h5⟩ := ob hf
  refine GX_stF hC e4 fkX2_9 ftX2_0 (olLand ht) rfl dX2_copyFrom_5 ?_
  refine GX_aload_n hC dX2_copyFrom_8 rfl ?_
  refine GX_aload_n hC dX2_copyFrom_9 rfl ?_
  refine GX_getI hC fkX2_15 (olLand hp_other1) rfl dX2_copyFrom_10 ?_
  obtain ⟨m6, e7, h8⟩ := ob h5
  refine GX_stF hC e7 fkX2_15 ftX2_1 (olLand ht) rfl dX2_copyFrom_13 ?_
  refine GX_aload_n hC dX2_copyFrom_16 rfl ?_
  refine GX_aload_n hC dX2_copyFrom_17 rfl ?_
  obtain ⟨b9, e10, h11⟩ := ob h8
  refine GX_ldZ hC e10 fkX2_18 (olLand hp_other1) rfl dX2_copyFrom_18 ?_
  obtain ⟨m12, e13, h14⟩ := ob h11
  refine GX_stZ hC e13 fkX2_18 ftX2_2 (olLand ht) rfl dX2_copyFrom_21 ?_
  refine GX_aload_n hC dX2_copyFrom_24 rfl ?_
  refine GX_aload_n hC dX2_copyFrom_25 rfl ?_
  obtain ⟨b15, e16, h17⟩ := ob h14
  refine GX_ldZ hC e16 fkX2_22 (olLand hp_other1) rfl dX2_copyFrom_26 ?_
  obtain ⟨m18, e19, h20⟩ := ob h17
  refine GX_stZ hC e19 fkX2_22 ftX2_3 (olLand ht) rfl dX2_copyFrom_29 ?_
  refine GX_aload_n hC dX2_copyFrom_32 rfl ?_
  refine GX_getR hC fkX2_25 (olLand hp_other1) rfl dX2_copyFrom_33 ?_
  refine GX_iconst hC 0 dX2_copyFrom_36 rfl ?_
  refine GX_aload_n hC dX2_copyFrom_37 rfl ?_
  refine GX_getR hC fkX2_25 (olLand ht) rfl dX2_copyFrom_38 ?_
  refine GX_iconst hC 0 dX2_copyFrom_41 rfl ?_
  refine GX_aload_n hC dX2_copyFrom_42 rfl ?_
  refine GX_getR hC fkX2_25 (olLand ht) rfl dX2_copyFrom_43 ?_
  refine GX_alen hC 6 (alLand1 ht) (by decide) rfl dX2_copyFrom_46 ?_
  obtain ⟨m21, e22, h23⟩ := ob h20
  refine GX_acp hC e22 acX2_44 (Nat.le_of_ble_eq_true rfl) (alLand1 hp_other1) (alLand1 ht) (Nat.le_of_ble_eq_true rfl) dX2_copyFrom_47 ?_
  refine GX_aload_n hC dX2_copyFrom_50 rfl ?_
  refine GX_getR hC fkX2_29 (olLand hp_other1) rfl dX2_copyFrom_51 ?_
  refine GX_iconst hC 0 dX2_copyFrom_54 rfl ?_
  refine GX_aload_n hC dX2_copyFrom_55 rfl ?_
  refine GX_getR hC fkX2_29 (olLand ht) rfl dX2_copyFrom_56 ?_
  refine GX_iconst hC 0 dX2_copyFrom_59 rfl ?_
  refine GX_aload_n hC dX2_copyFrom_60 rfl ?_
  refine GX_getR hC fkX2_29 (olLand ht) rfl dX2_copyFrom_61 ?_
  refine GX_alen hC 6 (alLand2 ht) (by decide) rfl dX2_copyFrom_64 ?_
  obtain ⟨m24, e25, h26⟩ := ob h23
  refine GX_acp hC e25 acX2_44 (Nat.le_of_ble_eq_true rfl) (alLand2 hp_other1) (alLand2 ht) (Nat.le_of_ble_eq_true rfl) dX2_copyFrom_65 ?_
  refine GX_aload_n hC dX2_copyFrom_68 rfl ?_
  refine GX_getR hC fkX2_32 (olLand hp_other1) rfl dX2_copyFrom_69 ?_
  refine GX_iconst hC 0 dX2_copyFrom_72 rfl ?_
  refine GX_aload_n hC dX2_copyFrom_73 rfl ?_
  refine GX_getR hC fkX2_32 (olLand ht) rfl dX2_copyFrom_74 ?_
  refine GX_iconst hC 0 dX2_copyFrom_77 rfl ?_
  refine GX_aload_n hC dX2_copyFrom_78 rfl ?_
  refine GX_getR hC fkX2_32 (olLand ht) rfl dX2_copyFrom_79 ?_
  refine GX_alen hC 36 (alLand3 ht) (by decide) rfl dX2_copyFrom_82 ?_
  obtain ⟨m27, e28, h29⟩ := ob h26
  refine GX_acp hC e28 acX2_44 (Nat.le_of_ble_eq_true rfl) (alLand3 hp_other1) (alLand3 ht) (Nat.le_of_ble_eq_true rfl) dX2_copyFrom_83 ?_
  refine GX_aload_n hC dX2_copyFrom_86 rfl ?_
  refine GX_getR hC fkX2_35 (olLand hp_other1) rfl dX2_copyFrom_87 ?_
  refine GX_iconst hC 0 dX2_copyFrom_90 rfl ?_
  refine GX_aload_n hC dX2_copyFrom_91 rfl ?_
  refine GX_getR hC fkX2_35 (olLand ht) rfl dX2_copyFrom_92 ?_
  refine GX_iconst hC 0 dX2_copyFrom_95 rfl ?_
  refine GX_aload_n hC dX2_copyFrom_96 rfl ?_
  refine GX_getR hC fkX2_35 (olLand ht) rfl dX2_copyFrom_97 ?_
  refine GX_alen hC 3 (alLand4 ht) (by decide) rfl dX2_copyFrom_100 ?_
  obtain ⟨m30, e31, h32⟩ := ob h29
  refine GX_acp hC e31 acX2_44 (Nat.le_of_ble_eq_true rfl) (alLand4 hp_other1) (alLand4 ht) (Nat.le_of_ble_eq_true rfl) dX2_copyFrom_101 ?_
  refine GX_aload_n hC dX2_copyFrom_104 rfl ?_
  refine GX_getR hC fkX2_38 (olLand hp_other1) rfl dX2_copyFrom_105 ?_
  refine GX_iconst hC 0 dX2_copyFrom_108 rfl ?_
  refine GX_aload_n hC dX2_copyFrom_109 rfl ?_
  refine GX_getR hC fkX2_38 (olLand ht) rfl dX2_copyFrom_110 ?_
  refine GX_iconst hC 0 dX2_copyFrom_113 rfl ?_
  refine GX_aload_n hC dX2_copyFrom_114 rfl ?_
  refine GX_getR hC fkX2_38 (olLand ht) rfl dX2_copyFrom_115 ?_
  refine GX_alen hC 3 (alLand5 ht) (by decide) rfl dX2_copyFrom_118 ?_
  obtain ⟨m33, e34, h35⟩ := ob h32
  refine GX_acp hC e34 acX2_44 (Nat.le_of_ble_eq_true rfl) (alLand5 hp_other1) (alLand5 ht) (Nat.le_of_ble_eq_true rfl) dX2_copyFrom_119 ?_
  refine GX_aload_n hC dX2_copyFrom_122 rfl ?_
  refine GX_getR hC fkX2_41 (olLand hp_other1) rfl dX2_copyFrom_123 ?_
  refine GX_iconst hC 0 dX2_copyFrom_126 rfl ?_
  refine GX_aload_n hC dX2_copyFrom_127 rfl ?_
  refine GX_getR hC fkX2_41 (olLand ht) rfl dX2_copyFrom_128 ?_
  refine GX_iconst hC 0 dX2_copyFrom_131 rfl ?_
  refine GX_aload_n hC dX2_copyFrom_132 rfl ?_
  refine GX_getR hC fkX2_41 (olLand ht) rfl dX2_copyFrom_133 ?_
  refine GX_alen hC 18 (alLand6 ht) (by decide) rfl dX2_copyFrom_136 ?_
  obtain ⟨m36, e37, h38⟩ := ob h35
  refine GX_acp hC e37 acX2_44 (Nat.le_of_ble_eq_true rfl) (alLand6 hp_other1) (alLand6 ht) (Nat.le_of_ble_eq_true rfl) dX2_copyFrom_137 ?_
  exact GX_vretW hC hR dX2_copyFrom_140 (oi h38)
set_option maxRecDepth 100000 in
set_option maxHeartbeats 4000000 in
theorem C_Land_isField {l : Launch} {t : Nat} {f1 : Int32} {m2 : MI} {r0 : Bool} (ht : isLand t) (hf : Land_isField t f1 m2 = some r0) : Cn l yX2_isField cX2_isField 2 (some .boolean) 0 LAY (fun ad => .ref (ad t) :: [.int f1]) m2 (fun _ => some (.int (bI r0))) m2 := by
  refine Cn.of (fun ad => [some (.ref (ad t)), some (.int f1)]) (by decide +kernel) (fun _ => rfl) (fun _ => Nat.le_of_ble_eq_true rfl) (fun Γ hl hC hR hk => ?_)
  subst hl
  replace hC : CX Γ cX2_isField RX2 LAY 0 2 := hC
  dsimp only [Land_isField] at hf
  obtain ⟨c3, e4, h5⟩ := ob hf
  suffices hJ6 : GX Γ LAY 0 0 [some (.ref (gad Γ t)), some (.int f1)] [.int (bI c3)] m2 23 by
    have hc7 : true = c3 → GX Γ LAY 0 0 [some (.ref (gad Γ t)), some (.int f1)] [] m2 18 := by
      intro q
      subst q
      refine GX_iconst hC (bI true) dX2_isField_18 rfl ?_
      refine GX_goto hC 23 dX2_isField_19 (by decide) ?_
      exact hJ6
    have hc8 : false = c3 → GX Γ LAY 0 0 [some (.ref (gad Γ t)), some (.int f1)] [] m2 22 := by
      intro q
      subst q
      refine GX_iconst hC (bI false) dX2_isField_22 rfl ?_
      exact hJ6
    refine GX_iload_n hC dX2_isField_0 rfl ?_
    refine GX_if_lt_N hC 22 dX2_isField_1 (by decide) (fun q => ?_) (fun q => ?_)
    · skip
      have h9 := ifP q e4
      refine GX_iload_n hC dX2_isField_4 rfl ?_
      refine GX_aload_n hC dX2_isField_5 rfl ?_
      refine GX_getI hC fkX2_9 (olLand ht) rfl dX2_isField_6 ?_
      refine GX_icmp_ge_N hC 22 dX2_isField_9 (by decide) (fun q => ?_) (fun q => ?_)
      · skip
        have h10 := ifP q h9
        refine GX_iload_n hC dX2_isField_12 rfl ?_
        refine GX_bipush hC 6 dX2_isField_13 rfl ?_
        refine GX_icmp_ge_N hC 22 dX2_isField_15 (by decide) (fun q => ?_) (fun q => ?_)
        · skip
          exact hc7 (cdT q h10)
        · skip
          exact hc8 (cdF q h10)
      · skip
        have h11 := ifN q h9
        exact hc8 (oi h11)
    · skip
      have h12 := ifN q e4
      exact hc8 (oi h12)
  exact GX_zretR hC c3 hR dX2_isField_23 (oi h5)
set_option maxRecDepth 100000 in
set_option maxHeartbeats 4000000 in
theorem C_Land_isPerson {l : Launch} {t : Nat} {p1 : Int32} {m2 : MI} {r0 : Bool} (ht : isLand t) (hf : Land_isPerson t p1 m2 = some r0) : Cn l yX2_isPerson cX2_isPerson 2 (some .boolean) 0 LAY (fun ad => .ref (ad t) :: [.int p1]) m2 (fun _ => some (.int (bI r0))) m2 := by
  refine Cn.of (fun ad => [some (.ref (ad t)), some (.int p1)]) (by decide +kernel) (fun _ => rfl) (fun _ => Nat.le_of_ble_eq_true rfl) (fun Γ hl hC hR hk => ?_)
  subst hl
  replace hC : CX Γ cX2_isPerson RX2 LAY 0 2 := hC
  dsimp only [Land_isPerson] at hf
  obtain ⟨c3, e4, h5⟩ := ob hf
  suffices hJ6 : GX Γ LAY 0 0 [some (.ref (gad Γ t)), some (.int p1)] [.int (bI c3)] m2 22 by
    have hc7 : true = c3 → GX Γ LAY 0 0 [some (.ref (gad Γ t)), some (.int p1)] [] m2 17 := by
      intro q
      subst q
      refine GX_iconst hC (bI true) dX2_isPerson_17 rfl ?_
      refine GX_goto hC 22 dX2_isPerson_18 (by decide) ?_
      exact hJ6
    have hc8 : false = c3 → GX Γ LAY 0 0 [some (.ref (gad Γ t)), some (.int p1)] [] m2 21 := by
      intro q
      subst q
      refine GX_iconst hC (bI false) dX2_isPerson_21 rfl ?_
      exact hJ6
    refine GX_iload_n hC dX2_isPerson_0 rfl ?_
    refine GX_if_lt_N hC 21 dX2_isPerson_1 (by decide) (fun q => ?_) (fun q => ?_)
    · skip
      have h9 := ifP q e4
      refine GX_iload_n hC dX2_isPerson_4 rfl ?_
      refine GX_aload_n hC dX2_isPerson_5 rfl ?_
      refine GX_getI hC fkX2_15 (olLand ht) rfl dX2_isPerson_6 ?_
      refine GX_icmp_ge_N hC 21 dX2_isPerson_9 (by decide) (fun q => ?_) (fun q => ?_)
      · skip
        have h10 := ifP q h9
        refine GX_iload_n hC dX2_isPerson_12 rfl ?_
        refine GX_iconst hC 3 dX2_isPerson_13 rfl ?_
        refine GX_icmp_ge_N hC 21 dX2_isPerson_14 (by decide) (fun q => ?_) (fun q => ?_)
        · skip
          exact hc7 (cdT q h10)
        · skip
          exact hc8 (cdF q h10)
      · skip
        have h11 := ifN q h9
        exact hc8 (oi h11)
    · skip
      have h12 := ifN q e4
      exact hc8 (oi h12)
  exact GX_zretR hC c3 hR dX2_isPerson_22 (oi h5)
set_option maxRecDepth 100000 in
set_option maxHeartbeats 4000000 in
theorem C_Land_setWorth {l : Launch} {t : Nat} {p1 : Int32} {f2 : Int32} {worth3 : Int32} {m4 : MI} {r0 : Bool} {mr : MI} (ht : isLand t) (hf : Land_setWorth t p1 f2 worth3 m4 = some (r0, mr)) : Cn l yX2_setWorth cX2_setWorth 4 (some .boolean) 1 LAY (fun ad => .ref (ad t) :: [.int p1, .int f2, .int worth3]) m4 (fun _ => some (.int (bI r0))) mr := by
  refine Cn.of (fun ad => [some (.ref (ad t)), some (.int p1), some (.int f2), some (.int worth3)]) (by decide +kernel) (fun _ => rfl) (fun _ => Nat.le_of_ble_eq_true rfl) (fun Γ hl hC hR hk => ?_)
  subst hl
  replace hC : CX Γ cX2_setWorth RX2 LAY 1 4 := hC
  dsimp only [Land_setWorth] at hf
  obtain ⟨c5, e6, h7⟩ := ob hf
  have hc8 : true = c5 → GX Γ LAY 0 0 [some (.ref (gad Γ t)), some (.int p1), some (.int f2), some (.int worth3)] [] m4 16 := by
    intro q
    have h9 := ifT q.symm h7
    refine GX_iconst hC (bI false) dX2_setWorth_16 rfl ?_
    exact GX_zretW hC false hR dX2_setWorth_17 (oi h9)
  have hc10 : false = c5 → GX Γ LAY 0 0 [some (.ref (gad Γ t)), some (.int p1), some (.int f2), some (.int worth3)] [] m4 18 := by
    intro q
    have h11 := ifF q.symm h7
    refine GX_aload_n hC dX2_setWorth_18 rfl ?_
    refine GX_getR hC fkX2_41 (olLand ht) rfl dX2_setWorth_19 ?_
    refine GX_iload_n hC dX2_setWorth_22 rfl ?_
    refine GX_bipush hC 6 dX2_setWorth_23 rfl ?_
    refine GX_imul hC dX2_setWorth_25 ?_
    refine GX_iload_n hC dX2_setWorth_26 rfl ?_
    refine GX_iadd hC dX2_setWorth_27 ?_
    refine GX_iload_n hC dX2_setWorth_28 rfl ?_
    obtain ⟨m12, e13, h14⟩ := ob h11
    refine GX_stA hC e13 (alLand6 ht) dX2_setWorth_29 ?_
    refine GX_iconst hC (bI true) dX2_setWorth_30 rfl ?_
    exact GX_zretW hC true hR dX2_setWorth_31 (oi h14)
  refine GX_aload_n hC dX2_setWorth_0 rfl ?_
  refine GX_iload_n hC dX2_setWorth_1 rfl ?_
  obtain ⟨b15, e16, h17⟩ := ob e6
  refine GX_callV_i (st := []) hC (C_Land_isPerson ht e16) okX2_isPerson lkX2_50 (olLand ht) rfl rfl (Nat.le_of_ble_eq_true rfl) (Nat.le_of_ble_eq_true rfl) hk rfl (Nat.le_of_ble_eq_true rfl) dX2_setWorth_2 ?_
  refine GX_ifb_eq hC 16 dX2_setWorth_5 (by decide) (fun q => ?_) (fun q => ?_)
  · skip
    have h18 := ifT q h17
    refine GX_aload_n hC dX2_setWorth_8 rfl ?_
    refine GX_iload_n hC dX2_setWorth_9 rfl ?_
    obtain ⟨b19, e20, h21⟩ := ob h18
    refine GX_callV_i (st := []) hC (C_Land_isField ht e20) okX2_isField lkX2_54 (olLand ht) rfl rfl (Nat.le_of_ble_eq_true rfl) (Nat.le_of_ble_eq_true rfl) hk rfl (Nat.le_of_ble_eq_true rfl) dX2_setWorth_10 ?_
    refine GX_ifb_ne hC 18 dX2_setWorth_13 (by decide) (fun q => ?_) (fun q => ?_)
    · skip
      exact hc10 (cbnT q h21)
    · skip
      exact hc8 (cbnF q h21)
  · skip
    have h22 := ifF q h17
    exact hc8 (oi h22)
set_option maxRecDepth 100000 in
set_option maxHeartbeats 4000000 in
theorem C_Land_addField {l : Launch} {t : Nat} {size1 : Int32} {m2 : MI} {r0 : Bool} {mr : MI} (ht : isLand t) (hf : Land_addField t size1 m2 = some (r0, mr)) : Cn l yX2_addField cX2_addField 4 (some .boolean) 2 LAY (fun ad => .ref (ad t) :: [.int size1]) m2 (fun _ => some (.int (bI r0))) mr := by
  refine Cn.of (fun ad => [some (.ref (ad t)), some (.int size1), none, none]) (by decide +kernel) (fun _ => rfl) (fun _ => Nat.le_of_ble_eq_true rfl) (fun Γ hl hC hR hk => ?_)
  subst hl
  replace hC : CX Γ cX2_addField RX2 LAY 2 4 := hC
  dsimp only [Land_addField] at hf
  obtain ⟨c3, e4, h5⟩ := ob hf
  have hc6 : true = c3 → GX Γ LAY 0 0 [some (.ref (gad Γ t)), some (.int size1), none, none] [] m2 27 := by
    intro q
    have h7 := ifT q.symm h5
    refine GX_iconst hC (bI false) dX2_addField_27 rfl ?_
    exact GX_zretW hC false hR dX2_addField_28 (oi h7)
  have hc8 : false = c3 → GX Γ LAY 0 0 [some (.ref (gad Γ t)), some (.int size1), none, none] [] m2 29 := by
    intro q
    have h9 := ifF q.symm h5
    refine GX_aload_n hC dX2_addField_29 rfl ?_
    refine GX_getI hC fkX2_9 (olLand ht) rfl dX2_addField_30 ?_
    obtain ⟨f10, e11, h12⟩ := ob h9
    refine GX_nm (oi e11) ?_
    refine GX_istore_n hC [some (.ref (gad Γ t)), some (.int size1), some (.int f10), none] dX2_addField_33 (by decide) rfl rfl ?_
    refine GX_aload_n hC dX2_addField_34 rfl ?_
    refine GX_dup hC dX2_addField_35 rfl ?_
    refine GX_getI hC fkX2_9 (olLand ht) rfl dX2_addField_36 ?_
    refine GX_iconst hC 1 dX2_addField_39 rfl ?_
    refine GX_iadd hC dX2_addField_40 ?_
    obtain ⟨m13, e14, h15⟩ := ob h12
    refine GX_stF hC e14 fkX2_9 ftX2_0 (olLand ht) rfl dX2_addField_41 ?_
    refine GX_aload_n hC dX2_addField_44 rfl ?_
    refine GX_getR hC fkX2_25 (olLand ht) rfl dX2_addField_45 ?_
    refine GX_iload_n hC dX2_addField_48 rfl ?_
    refine GX_iload_n hC dX2_addField_49 rfl ?_
    obtain ⟨m16, e17, h18⟩ := ob h15
    refine GX_stA hC e17 (alLand1 ht) dX2_addField_50 ?_
    refine GX_aload_n hC dX2_addField_51 rfl ?_
    refine GX_getR hC fkX2_29 (olLand ht) rfl dX2_addField_52 ?_
    refine GX_iload_n hC dX2_addField_55 rfl ?_
    refine GX_bipush hC 9 dX2_addField_56 rfl ?_
    obtain ⟨m19, e20, h21⟩ := ob h18
    refine GX_stA hC e20 (alLand2 ht) dX2_addField_58 ?_
    refine GX_iconst hC 0 dX2_addField_59 rfl ?_
    refine GX_istore_n hC [some (.ref (gad Γ t)), some (.int size1), some (.int f10), some (.int 0)] dX2_addField_60 (by decide) rfl rfl ?_
    obtain ⟨o22, e23, h24⟩ := ob h21
    suffices hJ25 : ∀ (m28 : MI), m28 = o22 → GX Γ LAY 0 0 [some (.ref (gad Γ t)), some (.int size1), some (.int f10), none] [] m28 86 by
      refine lp_walk (P := fun s => GX Γ LAY 0 0 [some (.ref (gad Γ t)), some (.int size1), some (.int f10), some (.int s.1)] [] s.2 61) (fun s x hx25 hI25 hO25 => ?_) _ _ e23
      obtain ⟨p26, m27⟩ := s
      show GX Γ LAY 0 0 [some (.ref (gad Γ t)), some (.int size1), some (.int f10), some (.int p26)] [] m27 61
      dsimp only [Land_addField_s1] at hx25
      refine GX_iload_n hC dX2_addField_61 rfl ?_
      refine GX_aload_n hC dX2_addField_62 rfl ?_
      refine GX_getI hC fkX2_15 (olLand ht) rfl dX2_addField_63 ?_
      refine GX_icmp_ge_N hC 86 dX2_addField_66 (by decide) (fun q => ?_) (fun q => ?_)
      · skip
        have h29 := ifP q hx25
        refine GX_aload_n hC dX2_addField_69 rfl ?_
        refine GX_iload_n hC dX2_addField_70 rfl ?_
        refine GX_iload_n hC dX2_addField_71 rfl ?_
        refine GX_bipush hC 10 dX2_addField_72 rfl ?_
        refine GX_iload_n hC dX2_addField_74 rfl ?_
        refine GX_imul hC dX2_addField_75 ?_
        obtain ⟨⟨b30, m31⟩, e32, h33⟩ := ob h29
        refine GX_callV_i (st := []) hC (C_Land_setWorth ht e32) okX2_setWorth lkX2_57 (olLand ht) rfl rfl (Nat.le_of_ble_eq_true rfl) (Nat.le_of_ble_eq_true rfl) hk rfl (Nat.le_of_ble_eq_true rfl) dX2_addField_76 ?_
        refine GX_pop hC dX2_addField_79 rfl ?_
        obtain ⟨i34, e35, h36⟩ := ob h33
        refine GX_iinc hC i34 [some (.ref (gad Γ t)), some (.int size1), some (.int f10), some (.int i34)] dX2_addField_80 rfl (oi e35) (by decide) rfl rfl ?_
        refine GX_goto hC 61 dX2_addField_83 (by decide) ?_
        exact hI25 _ (oi h36).symm
      · skip
        have h37 := ifN q hx25
        exact GX.le (hJ25 _ (hO25 _ (oi h37).symm)) ⟨rfl, ⟨rfl, ⟨rfl, trivial⟩⟩⟩
    intro m28 q38
    subst q38
    refine GX_iconst hC (bI true) dX2_addField_86 rfl ?_
    exact GX_zretW hC true hR dX2_addField_87 (oi h24)
  refine GX_iload_n hC dX2_addField_0 rfl ?_
  refine GX_iconst hC 1 dX2_addField_1 rfl ?_
  refine GX_icmp_lt_P hC 27 dX2_addField_2 (by decide) (fun q => ?_) (fun q => ?_)
  · skip
    have h39 := ifP q e4
    exact hc6 (oi h39)
  · skip
    have h40 := ifN q e4
    refine GX_iload_n hC dX2_addField_5 rfl ?_
    refine GX_bipush hC 9 dX2_addField_6 rfl ?_
    refine GX_icmp_gt_P hC 27 dX2_addField_8 (by decide) (fun q => ?_) (fun q => ?_)
    · skip
      have h41 := ifP q h40
      exact hc6 (oi h41)
    · skip
      have h42 := ifN q h40
      refine GX_aload_n hC dX2_addField_11 rfl ?_
      refine GX_getI hC fkX2_9 (olLand ht) rfl dX2_addField_12 ?_
      refine GX_if_lt_P hC 27 dX2_addField_15 (by decide) (fun q => ?_) (fun q => ?_)
      · skip
        have h43 := ifP q h42
        exact hc6 (oi h43)
      · skip
        have h44 := ifN q h42
        refine GX_aload_n hC dX2_addField_18 rfl ?_
        refine GX_getI hC fkX2_9 (olLand ht) rfl dX2_addField_19 ?_
        refine GX_bipush hC 6 dX2_addField_22 rfl ?_
        refine GX_icmp_lt_N hC 29 dX2_addField_24 (by decide) (fun q => ?_) (fun q => ?_)
        · skip
          exact hc6 (cdT q h44)
        · skip
          exact hc8 (cdF q h44)
set_option maxRecDepth 100000 in
set_option maxHeartbeats 4000000 in
theorem C_Land_isOwner {l : Launch} {t : Nat} {p1 : Int32} {m2 : MI} {r0 : Bool} (ht : isLand t) (hf : Land_isOwner t p1 m2 = some r0) : Cn l yX2_isOwner cX2_isOwner 2 (some .boolean) 1 LAY (fun ad => .ref (ad t) :: [.int p1]) m2 (fun _ => some (.int (bI r0))) m2 := by
  refine Cn.of (fun ad => [some (.ref (ad t)), some (.int p1)]) (by decide +kernel) (fun _ => rfl) (fun _ => Nat.le_of_ble_eq_true rfl) (fun Γ hl hC hR hk => ?_)
  subst hl
  replace hC : CX Γ cX2_isOwner RX2 LAY 1 2 := hC
  dsimp only [Land_isOwner] at hf
  obtain ⟨c3, e4, h5⟩ := ob hf
  suffices hJ6 : GX Γ LAY 0 0 [some (.ref (gad Γ t)), some (.int p1)] [.int (bI c3)] m2 19 by
    have hc7 : true = c3 → GX Γ LAY 0 0 [some (.ref (gad Γ t)), some (.int p1)] [] m2 14 := by
      intro q
      subst q
      refine GX_iconst hC (bI true) dX2_isOwner_14 rfl ?_
      refine GX_goto hC 19 dX2_isOwner_15 (by decide) ?_
      exact hJ6
    have hc8 : false = c3 → GX Γ LAY 0 0 [some (.ref (gad Γ t)), some (.int p1)] [] m2 18 := by
      intro q
      subst q
      refine GX_iconst hC (bI false) dX2_isOwner_18 rfl ?_
      exact hJ6
    refine GX_iload_n hC dX2_isOwner_0 rfl ?_
    refine GX_bipush hC 9 dX2_isOwner_1 rfl ?_
    refine GX_icmp_eq_P hC 14 dX2_isOwner_3 (by decide) (fun q => ?_) (fun q => ?_)
    · skip
      have h9 := ifP q e4
      exact hc7 (oi h9)
    · skip
      have h10 := ifN q e4
      refine GX_aload_n hC dX2_isOwner_6 rfl ?_
      refine GX_iload_n hC dX2_isOwner_7 rfl ?_
      obtain ⟨b11, e12, h13⟩ := ob h10
      refine GX_callV_i (st := []) hC (C_Land_isPerson ht e12) okX2_isPerson lkX2_50 (olLand ht) rfl rfl (Nat.le_of_ble_eq_true rfl) (Nat.le_of_ble_eq_true rfl) hk rfl (Nat.le_of_ble_eq_true rfl) dX2_isOwner_8 ?_
      refine GX_ifb_eq hC 18 dX2_isOwner_11 (by decide) (fun q => ?_) (fun q => ?_)
      · skip
        exact hc7 (cbT q h13)
      · skip
        exact hc8 (cbF q h13)
  exact GX_zretR hC c3 hR dX2_isOwner_19 (oi h5)
set_option maxRecDepth 100000 in
set_option maxHeartbeats 4000000 in
theorem C_Land_give {l : Launch} {t : Nat} {p1 : Int32} {f2 : Int32} {m3 : MI} {r0 : Bool} {mr : MI} (ht : isLand t) (hf : Land_give t p1 f2 m3 = some (r0, mr)) : Cn l yX2_give cX2_give 3 (some .boolean) 2 LAY (fun ad => .ref (ad t) :: [.int p1, .int f2]) m3 (fun _ => some (.int (bI r0))) mr := by
  refine Cn.of (fun ad => [some (.ref (ad t)), some (.int p1), some (.int f2)]) (by decide +kernel) (fun _ => rfl) (fun _ => Nat.le_of_ble_eq_true rfl) (fun Γ hl hC hR hk => ?_)
  subst hl
  replace hC : CX Γ cX2_give RX2 LAY 2 3 := hC
  dsimp only [Land_give] at hf
  obtain ⟨c4, e5, h6⟩ := ob hf
  have hc7 : true = c4 → GX Γ LAY 0 0 [some (.ref (gad Γ t)), some (.int p1), some (.int f2)] [] m3 16 := by
    intro q
    have h8 := ifT q.symm h6
    refine GX_iconst hC (bI false) dX2_give_16 rfl ?_
    exact GX_zretW hC false hR dX2_give_17 (oi h8)
  have hc9 : false = c4 → GX Γ LAY 0 0 [some (.ref (gad Γ t)), some (.int p1), some (.int f2)] [] m3 18 := by
    intro q
    have h10 := ifF q.symm h6
    refine GX_aload_n hC dX2_give_18 rfl ?_
    refine GX_getR hC fkX2_29 (olLand ht) rfl dX2_give_19 ?_
    refine GX_iload_n hC dX2_give_22 rfl ?_
    refine GX_iload_n hC dX2_give_23 rfl ?_
    obtain ⟨m11, e12, h13⟩ := ob h10
    refine GX_stA hC e12 (alLand2 ht) dX2_give_24 ?_
    refine GX_iconst hC (bI true) dX2_give_25 rfl ?_
    exact GX_zretW hC true hR dX2_give_26 (oi h13)
  refine GX_aload_n hC dX2_give_0 rfl ?_
  refine GX_iload_n hC dX2_give_1 rfl ?_
  obtain ⟨b14, e15, h16⟩ := ob e5
  refine GX_callV_i (st := []) hC (C_Land_isOwner ht e15) okX2_isOwner lkX2_61 (olLand ht) rfl rfl (Nat.le_of_ble_eq_true rfl) (Nat.le_of_ble_eq_true rfl) hk rfl (Nat.le_of_ble_eq_true rfl) dX2_give_2 ?_
  refine GX_ifb_eq hC 16 dX2_give_5 (by decide) (fun q => ?_) (fun q => ?_)
  · skip
    have h17 := ifT q h16
    refine GX_aload_n hC dX2_give_8 rfl ?_
    refine GX_iload_n hC dX2_give_9 rfl ?_
    obtain ⟨b18, e19, h20⟩ := ob h17
    refine GX_callV_i (st := []) hC (C_Land_isField ht e19) okX2_isField lkX2_54 (olLand ht) rfl rfl (Nat.le_of_ble_eq_true rfl) (Nat.le_of_ble_eq_true rfl) hk rfl (Nat.le_of_ble_eq_true rfl) dX2_give_10 ?_
    refine GX_ifb_ne hC 18 dX2_give_13 (by decide) (fun q => ?_) (fun q => ?_)
    · skip
      exact hc9 (cbnT q h20)
    · skip
      exact hc7 (cbnF q h20)
  · skip
    have h21 := ifF q h16
    exact hc7 (oi h21)
set_option maxRecDepth 100000 in
set_option maxHeartbeats 4000000 in
theorem C_Land_areTwo {l : Launch} {t : Nat} {a1 : Int32} {b2 : Int32} {m3 : MI} {r0 : Bool} (ht : isLand t) (hf : Land_areTwo t a1 b2 m3 = some r0) : Cn l yX2_areTwo cX2_areTwo 3 (some .boolean) 1 LAY (fun ad => .ref (ad t) :: [.int a1, .int b2]) m3 (fun _ => some (.int (bI r0))) m3 := by
  refine Cn.of (fun ad => [some (.ref (ad t)), some (.int a1), some (.int b2)]) (by decide +kernel) (fun _ => rfl) (fun _ => Nat.le_of_ble_eq_true rfl) (fun Γ hl hC hR hk => ?_)
  subst hl
  replace hC : CX Γ cX2_areTwo RX2 LAY 1 3 := hC
  dsimp only [Land_areTwo] at hf
  obtain ⟨c4, e5, h6⟩ := ob hf
  suffices hJ7 : GX Γ LAY 0 0 [some (.ref (gad Γ t)), some (.int a1), some (.int b2)] [.int (bI c4)] m3 26 by
    have hc8 : true = c4 → GX Γ LAY 0 0 [some (.ref (gad Γ t)), some (.int a1), some (.int b2)] [] m3 21 := by
      intro q
      subst q
      refine GX_iconst hC (bI true) dX2_areTwo_21 rfl ?_
      refine GX_goto hC 26 dX2_areTwo_22 (by decide) ?_
      exact hJ7
    have hc9 : false = c4 → GX Γ LAY 0 0 [some (.ref (gad Γ t)), some (.int a1), some (.int b2)] [] m3 25 := by
      intro q
      subst q
      refine GX_iconst hC (bI false) dX2_areTwo_25 rfl ?_
      exact hJ7
    refine GX_aload_n hC dX2_areTwo_0 rfl ?_
    refine GX_iload_n hC dX2_areTwo_1 rfl ?_
    obtain ⟨b10, e11, h12⟩ := ob e5
    refine GX_callV_i (st := []) hC (C_Land_isField ht e11) okX2_isField lkX2_54 (olLand ht) rfl rfl (Nat.le_of_ble_eq_true rfl) (Nat.le_of_ble_eq_true rfl) hk rfl (Nat.le_of_ble_eq_true rfl) dX2_areTwo_2 ?_
    refine GX_ifb_eq hC 25 dX2_areTwo_5 (by decide) (fun q => ?_) (fun q => ?_)
    · skip
      have h13 := ifT q h12
      refine GX_aload_n hC dX2_areTwo_8 rfl ?_
      refine GX_iload_n hC dX2_areTwo_9 rfl ?_
      obtain ⟨b14, e15, h16⟩ := ob h13
      refine GX_callV_i (st := []) hC (C_Land_isField ht e15) okX2_isField lkX2_54 (olLand ht) rfl rfl (Nat.le_of_ble_eq_true rfl) (Nat.le_of_ble_eq_true rfl) hk rfl (Nat.le_of_ble_eq_true rfl) dX2_areTwo_10 ?_
      refine GX_ifb_eq hC 25 dX2_areTwo_13 (by decide) (fun q => ?_) (fun q => ?_)
      · skip
        have h17 := ifT q h16
        refine GX_iload_n hC dX2_areTwo_16 rfl ?_
        refine GX_iload_n hC dX2_areTwo_17 rfl ?_
        refine GX_icmp_eq_N hC 25 dX2_areTwo_18 (by decide) (fun q => ?_) (fun q => ?_)
        · skip
          exact hc8 (cdT q h17)
        · skip
          exact hc9 (cdF q h17)
      · skip
        have h18 := ifF q h16
        exact hc9 (oi h18)
    · skip
      have h19 := ifF q h12
      exact hc9 (oi h19)
  exact GX_zretR hC c4 hR dX2_areTwo_26 (oi h6)
set_option maxRecDepth 100000 in
set_option maxHeartbeats 4000000 in
theorem C_Land_setTouch {l : Launch} {t : Nat} {a1 : Int32} {b2 : Int32} {how3 : Int32} {m4 : MI} {mr : MI} (ht : isLand t) (hf : Land_setTouch t a1 b2 how3 m4 = some mr) : Cn l yX2_setTouch cX2_setTouch 4 none 2 LAY (fun ad => .ref (ad t) :: [.int a1, .int b2, .int how3]) m4 (fun _ => none) mr := by
  refine Cn.of (fun ad => [some (.ref (ad t)), some (.int a1), some (.int b2), some (.int how3)]) (by decide +kernel) (fun _ => rfl) (fun _ => Nat.le_of_ble_eq_true rfl) (fun Γ hl hC hR hk => ?_)
  subst hl
  replace hC : CX Γ cX2_setTouch RX2 LAY 2 4 := hC
  dsimp only [Land_setTouch] at hf
  obtain ⟨o5, e6, h7⟩ := ob hf
  suffices hJ9 : ∀ (m8 : MI), m8 = o5 → GX Γ LAY 0 0 [some (.ref (gad Γ t)), some (.int a1), some (.int b2), some (.int how3)] [] m8 33 by
    refine GX_aload_n hC dX2_setTouch_0 rfl ?_
    refine GX_iload_n hC dX2_setTouch_1 rfl ?_
    refine GX_iload_n hC dX2_setTouch_2 rfl ?_
    obtain ⟨b10, e11, h12⟩ := ob e6
    refine GX_callV_i (st := []) hC (C_Land_areTwo ht e11) okX2_areTwo lkX2_68 (olLand ht) rfl rfl (Nat.le_of_ble_eq_true rfl) (Nat.le_of_ble_eq_true rfl) hk rfl (Nat.le_of_ble_eq_true rfl) dX2_setTouch_3 ?_
    refine GX_ifb_eq hC 33 dX2_setTouch_6 (by decide) (fun q => ?_) (fun q => ?_)
    · skip
      have h13 := ifT q h12
      refine GX_aload_n hC dX2_setTouch_9 rfl ?_
      refine GX_getR hC fkX2_32 (olLand ht) rfl dX2_setTouch_10 ?_
      refine GX_iload_n hC dX2_setTouch_13 rfl ?_
      refine GX_bipush hC 6 dX2_setTouch_14 rfl ?_
      refine GX_imul hC dX2_setTouch_16 ?_
      refine GX_iload_n hC dX2_setTouch_17 rfl ?_
      refine GX_iadd hC dX2_setTouch_18 ?_
      refine GX_iload_n hC dX2_setTouch_19 rfl ?_
      obtain ⟨m14, e15, h16⟩ := ob h13
      refine GX_stA hC e15 (alLand3 ht) dX2_setTouch_20 ?_
      refine GX_aload_n hC dX2_setTouch_21 rfl ?_
      refine GX_getR hC fkX2_32 (olLand ht) rfl dX2_setTouch_22 ?_
      refine GX_iload_n hC dX2_setTouch_25 rfl ?_
      refine GX_bipush hC 6 dX2_setTouch_26 rfl ?_
      refine GX_imul hC dX2_setTouch_28 ?_
      refine GX_iload_n hC dX2_setTouch_29 rfl ?_
      refine GX_iadd hC dX2_setTouch_30 ?_
      refine GX_iload_n hC dX2_setTouch_31 rfl ?_
      obtain ⟨m17, e18, h19⟩ := ob h16
      refine GX_stA hC e18 (alLand3 ht) dX2_setTouch_32 ?_
      exact (hJ9 _ (oi h19))
    · skip
      have h20 := ifF q h12
      exact (hJ9 _ (oi h20))
  intro m8 q21
  subst q21
  exact GX_vretW hC hR dX2_setTouch_33 (oi h7)
set_option maxRecDepth 100000 in
set_option maxHeartbeats 4000000 in
theorem C_Land_touchOf {l : Launch} {t : Nat} {a1 : Int32} {b2 : Int32} {m3 : MI} {r0 : Int32} (ht : isLand t) (hf : Land_touchOf t a1 b2 m3 = some r0) : Cn l yX2_touchOf cX2_touchOf 3 (some .int) 1 LAY (fun ad => .ref (ad t) :: [.int a1, .int b2]) m3 (fun _ => some (.int r0)) m3 := by
  refine Cn.of (fun ad => [some (.ref (ad t)), some (.int a1), some (.int b2)]) (by decide +kernel) (fun _ => rfl) (fun _ => Nat.le_of_ble_eq_true rfl) (fun Γ hl hC hR hk => ?_)
  subst hl
  replace hC : CX Γ cX2_touchOf RX2 LAY 1 3 := hC
  dsimp only [Land_touchOf] at hf
  obtain ⟨x4, e5, h6⟩ := ob hf
  suffices hJ7 : GX Γ LAY 0 0 [some (.ref (gad Γ t)), some (.int a1), some (.int b2)] [.int x4] m3 31 by
    obtain ⟨c8, e9, h10⟩ := ob e5
    have hc11 : true = c8 → GX Γ LAY 0 0 [some (.ref (gad Γ t)), some (.int a1), some (.int b2)] [] m3 16 := by
      intro q
      have h12 := ifT q.symm h10
      refine GX_aload_n hC dX2_touchOf_16 rfl ?_
      refine GX_getR hC fkX2_32 (olLand ht) rfl dX2_touchOf_17 ?_
      refine GX_iload_n hC dX2_touchOf_20 rfl ?_
      refine GX_bipush hC 6 dX2_touchOf_21 rfl ?_
      refine GX_imul hC dX2_touchOf_23 ?_
      refine GX_iload_n hC dX2_touchOf_24 rfl ?_
      refine GX_iadd hC dX2_touchOf_25 ?_
      obtain ⟨x13, e14, h15⟩ := ob h12
      refine GX_ldA hC e14 (alLand3 ht) dX2_touchOf_26 ?_
      refine GX_goto hC 31 dX2_touchOf_27 (by decide) ?_
      exact GX_nm (oi h15) hJ7
    have hc16 : false = c8 → GX Γ LAY 0 0 [some (.ref (gad Γ t)), some (.int a1), some (.int b2)] [] m3 30 := by
      intro q
      have h17 := ifF q.symm h10
      refine GX_iconst hC 0 dX2_touchOf_30 rfl ?_
      exact GX_nm (oi h17) hJ7
    refine GX_aload_n hC dX2_touchOf_0 rfl ?_
    refine GX_iload_n hC dX2_touchOf_1 rfl ?_
    obtain ⟨b18, e19, h20⟩ := ob e9
    refine GX_callV_i (st := []) hC (C_Land_isField ht e19) okX2_isField lkX2_54 (olLand ht) rfl rfl (Nat.le_of_ble_eq_true rfl) (Nat.le_of_ble_eq_true rfl) hk rfl (Nat.le_of_ble_eq_true rfl) dX2_touchOf_2 ?_
    refine GX_ifb_eq hC 30 dX2_touchOf_5 (by decide) (fun q => ?_) (fun q => ?_)
    · skip
      have h21 := ifT q h20
      refine GX_aload_n hC dX2_touchOf_8 rfl ?_
      refine GX_iload_n hC dX2_touchOf_9 rfl ?_
      obtain ⟨b22, e23, h24⟩ := ob h21
      refine GX_callV_i (st := []) hC (C_Land_isField ht e23) okX2_isField lkX2_54 (olLand ht) rfl rfl (Nat.le_of_ble_eq_true rfl) (Nat.le_of_ble_eq_true rfl) hk rfl (Nat.le_of_ble_eq_true rfl) dX2_touchOf_10 ?_
      refine GX_ifb_eq hC 30 dX2_touchOf_13 (by decide) (fun q => ?_) (fun q => ?_)
      · skip
        exact hc11 (cbT q h24)
      · skip
        exact hc16 (cbF q h24)
    · skip
      have h25 := ifF q h20
      exact hc16 (oi h25)
  exact GX_iretR hC hR dX2_touchOf_31 (oi h6)
set_option maxRecDepth 100000 in
set_option maxHeartbeats 4000000 in
theorem C_Land_join {l : Launch} {t : Nat} {a1 : Int32} {b2 : Int32} {how3 : Int32} {m4 : MI} {r0 : Bool} {mr : MI} (ht : isLand t) (hf : Land_join t a1 b2 how3 m4 = some (r0, mr)) : Cn l yX2_join cX2_join 4 (some .boolean) 3 LAY (fun ad => .ref (ad t) :: [.int a1, .int b2, .int how3]) m4 (fun _ => some (.int (bI r0))) mr := by
  refine Cn.of (fun ad => [some (.ref (ad t)), some (.int a1), some (.int b2), some (.int how3)]) (by decide +kernel) (fun _ => rfl) (fun _ => Nat.le_of_ble_eq_true rfl) (fun Γ hl hC hR hk => ?_)
  subst hl
  replace hC : CX Γ cX2_join RX2 LAY 3 4 := hC
  dsimp only [Land_join] at hf
  obtain ⟨c5, e6, h7⟩ := ob hf
  have hc8 : true = c5 → GX Γ LAY 0 0 [some (.ref (gad Γ t)), some (.int a1), some (.int b2), some (.int how3)] [] m4 18 := by
    intro q
    have h9 := ifT q.symm h7
    refine GX_iconst hC (bI false) dX2_join_18 rfl ?_
    exact GX_zretW hC false hR dX2_join_19 (oi h9)
  have hc10 : false = c5 → GX Γ LAY 0 0 [some (.ref (gad Γ t)), some (.int a1), some (.int b2), some (.int how3)] [] m4 20 := by
    intro q
    have h11 := ifF q.symm h7
    refine GX_aload_n hC dX2_join_20 rfl ?_
    refine GX_iload_n hC dX2_join_21 rfl ?_
    refine GX_iload_n hC dX2_join_22 rfl ?_
    refine GX_iload_n hC dX2_join_23 rfl ?_
    obtain ⟨m12, e13, h14⟩ := ob h11
    refine GX_callV_v (st := []) hC (C_Land_setTouch ht e13) okX2_setTouch lkX2_76 (olLand ht) rfl rfl (Nat.le_of_ble_eq_true rfl) (Nat.le_of_ble_eq_true rfl) hk rfl (Nat.le_of_ble_eq_true rfl) dX2_join_24 ?_
    refine GX_iconst hC (bI true) dX2_join_27 rfl ?_
    exact GX_zretW hC true hR dX2_join_28 (oi h14)
  refine GX_aload_n hC dX2_join_0 rfl ?_
  refine GX_iload_n hC dX2_join_1 rfl ?_
  refine GX_iload_n hC dX2_join_2 rfl ?_
  obtain ⟨b15, e16, h17⟩ := ob e6
  refine GX_callV_i (st := []) hC (C_Land_areTwo ht e16) okX2_areTwo lkX2_68 (olLand ht) rfl rfl (Nat.le_of_ble_eq_true rfl) (Nat.le_of_ble_eq_true rfl) hk rfl (Nat.le_of_ble_eq_true rfl) dX2_join_3 ?_
  refine GX_ifb_eq hC 18 dX2_join_6 (by decide) (fun q => ?_) (fun q => ?_)
  · skip
    have h18 := ifT q h17
    refine GX_aload_n hC dX2_join_9 rfl ?_
    refine GX_iload_n hC dX2_join_10 rfl ?_
    refine GX_iload_n hC dX2_join_11 rfl ?_
    obtain ⟨r19, e20, h21⟩ := ob h18
    refine GX_callV_i (st := []) hC (C_Land_touchOf ht e20) okX2_touchOf lkX2_72 (olLand ht) rfl rfl (Nat.le_of_ble_eq_true rfl) (Nat.le_of_ble_eq_true rfl) hk rfl (Nat.le_of_ble_eq_true rfl) dX2_join_12 ?_
    refine GX_if_eq_N hC 20 dX2_join_15 (by decide) (fun q => ?_) (fun q => ?_)
    · skip
      exact hc8 (cdT q h21)
    · skip
      exact hc10 (cdF q h21)
  · skip
    have h22 := ifF q h17
    exact hc8 (oi h22)
set_option maxRecDepth 100000 in
set_option maxHeartbeats 4000000 in
theorem C_Land_setLaw {l : Launch} {t : Nat} {what1 : Int32} {x2 : Bool} {m3 : MI} {mr : MI} (ht : isLand t) (hf : Land_setLaw t what1 x2 m3 = some mr) : Cn l yX2_setLaw cX2_setLaw 3 none 0 LAY (fun ad => .ref (ad t) :: [.int what1, .int (bI x2)]) m3 (fun _ => none) mr := by
  refine Cn.of (fun ad => [some (.ref (ad t)), some (.int what1), some (.int (bI x2))]) (by decide +kernel) (fun _ => rfl) (fun _ => Nat.le_of_ble_eq_true rfl) (fun Γ hl hC hR hk => ?_)
  subst hl
  replace hC : CX Γ cX2_setLaw RX2 LAY 0 3 := hC
  dsimp only [Land_setLaw] at hf
  obtain ⟨o4, e5, h6⟩ := ob hf
  suffices hJ8 : ∀ (m7 : MI), m7 = o4 → GX Γ LAY 0 0 [some (.ref (gad Γ t)), some (.int what1), some (.int (bI x2))] [] m7 17 by
    refine GX_iload_n hC dX2_setLaw_0 rfl ?_
    refine GX_if_ne_N hC 12 dX2_setLaw_1 (by decide) (fun q => ?_) (fun q => ?_)
    · skip
      have h9 := ifP q e5
      refine GX_aload_n hC dX2_setLaw_4 rfl ?_
      refine GX_iload_n hC dX2_setLaw_5 rfl ?_
      obtain ⟨m10, e11, h12⟩ := ob h9
      refine GX_stZ hC e11 fkX2_18 ftX2_2 (olLand ht) rfl dX2_setLaw_6 ?_
      refine GX_goto hC 17 dX2_setLaw_9 (by decide) ?_
      exact (hJ8 _ (oi h12))
    · skip
      have h13 := ifN q e5
      refine GX_aload_n hC dX2_setLaw_12 rfl ?_
      refine GX_iload_n hC dX2_setLaw_13 rfl ?_
      obtain ⟨m14, e15, h16⟩ := ob h13
      refine GX_stZ hC e15 fkX2_22 ftX2_3 (olLand ht) rfl dX2_setLaw_14 ?_
      exact (hJ8 _ (oi h16))
  intro m7 q17
  subst q17
  exact GX_vretW hC hR dX2_setLaw_17 (oi h6)
set_option maxRecDepth 100000 in
set_option maxHeartbeats 4000000 in
theorem C_Land_acresOf {l : Launch} {t : Nat} {f1 : Int32} {m2 : MI} {r0 : Int32} (ht : isLand t) (hf : Land_acresOf t f1 m2 = some r0) : Cn l yX2_acresOf cX2_acresOf 2 (some .int) 1 LAY (fun ad => .ref (ad t) :: [.int f1]) m2 (fun _ => some (.int r0)) m2 := by
  refine Cn.of (fun ad => [some (.ref (ad t)), some (.int f1)]) (by decide +kernel) (fun _ => rfl) (fun _ => Nat.le_of_ble_eq_true rfl) (fun Γ hl hC hR hk => ?_)
  subst hl
  replace hC : CX Γ cX2_acresOf RX2 LAY 1 2 := hC
  dsimp only [Land_acresOf] at hf
  obtain ⟨x3, e4, h5⟩ := ob hf
  suffices hJ6 : GX Γ LAY 0 0 [some (.ref (gad Γ t)), some (.int f1)] [.int x3] m2 18 by
    refine GX_aload_n hC dX2_acresOf_0 rfl ?_
    refine GX_iload_n hC dX2_acresOf_1 rfl ?_
    obtain ⟨b7, e8, h9⟩ := ob e4
    refine GX_callV_i (st := []) hC (C_Land_isField ht e8) okX2_isField lkX2_54 (olLand ht) rfl rfl (Nat.le_of_ble_eq_true rfl) (Nat.le_of_ble_eq_true rfl) hk rfl (Nat.le_of_ble_eq_true rfl) dX2_acresOf_2 ?_
    refine GX_ifb_eq hC 17 dX2_acresOf_5 (by decide) (fun q => ?_) (fun q => ?_)
    · skip
      have h10 := ifT q h9
      refine GX_aload_n hC dX2_acresOf_8 rfl ?_
      refine GX_getR hC fkX2_25 (olLand ht) rfl dX2_acresOf_9 ?_
      refine GX_iload_n hC dX2_acresOf_12 rfl ?_
      obtain ⟨x11, e12, h13⟩ := ob h10
      refine GX_ldA hC e12 (alLand1 ht) dX2_acresOf_13 ?_
      refine GX_goto hC 18 dX2_acresOf_14 (by decide) ?_
      exact GX_nm (oi h13) hJ6
    · skip
      have h14 := ifF q h9
      refine GX_iconst hC 0 dX2_acresOf_17 rfl ?_
      exact GX_nm (oi h14) hJ6
  exact GX_iretR hC hR dX2_acresOf_18 (oi h5)
set_option maxRecDepth 100000 in
set_option maxHeartbeats 4000000 in
theorem C_Land_addPerson {l : Launch} {t : Nat} {purse1 : Int32} {kinOfOne2 : Int32} {m3 : MI} {r0 : Bool} {mr : MI} (ht : isLand t) (hf : Land_addPerson t purse1 kinOfOne2 m3 = some (r0, mr)) : Cn l yX2_addPerson cX2_addPerson 5 (some .boolean) 2 LAY (fun ad => .ref (ad t) :: [.int purse1, .int kinOfOne2]) m3 (fun _ => some (.int (bI r0))) mr := by
  refine Cn.of (fun ad => [some (.ref (ad t)), some (.int purse1), some (.int kinOfOne2), none, none]) (by decide +kernel) (fun _ => rfl) (fun _ => Nat.le_of_ble_eq_true rfl) (fun Γ hl hC hR hk => ?_)
  subst hl
  replace hC : CX Γ cX2_addPerson RX2 LAY 2 5 := hC
  dsimp only [Land_addPerson] at hf
  obtain ⟨c4, e5, h6⟩ := ob hf
  have hc7 : true = c4 → GX Γ LAY 0 0 [some (.ref (gad Γ t)), some (.int purse1), some (.int kinOfOne2), none, none] [] m3 23 := by
    intro q
    have h8 := ifT q.symm h6
    refine GX_iconst hC (bI false) dX2_addPerson_23 rfl ?_
    exact GX_zretW hC false hR dX2_addPerson_24 (oi h8)
  have hc9 : false = c4 → GX Γ LAY 0 0 [some (.ref (gad Γ t)), some (.int purse1), some (.int kinOfOne2), none, none] [] m3 25 := by
    intro q
    have h10 := ifF q.symm h6
    refine GX_aload_n hC dX2_addPerson_25 rfl ?_
    refine GX_getI hC fkX2_15 (olLand ht) rfl dX2_addPerson_26 ?_
    obtain ⟨p11, e12, h13⟩ := ob h10
    refine GX_nm (oi e12) ?_
    refine GX_istore_n hC [some (.ref (gad Γ t)), some (.int purse1), some (.int kinOfOne2), some (.int p11), none] dX2_addPerson_29 (by decide) rfl rfl ?_
    refine GX_aload_n hC dX2_addPerson_30 rfl ?_
    refine GX_dup hC dX2_addPerson_31 rfl ?_
    refine GX_getI hC fkX2_15 (olLand ht) rfl dX2_addPerson_32 ?_
    refine GX_iconst hC 1 dX2_addPerson_35 rfl ?_
    refine GX_iadd hC dX2_addPerson_36 ?_
    obtain ⟨m14, e15, h16⟩ := ob h13
    refine GX_stF hC e15 fkX2_15 ftX2_1 (olLand ht) rfl dX2_addPerson_37 ?_
    refine GX_aload_n hC dX2_addPerson_40 rfl ?_
    refine GX_getR hC fkX2_35 (olLand ht) rfl dX2_addPerson_41 ?_
    refine GX_iload_n hC dX2_addPerson_44 rfl ?_
    refine GX_iload_n hC dX2_addPerson_45 rfl ?_
    obtain ⟨m17, e18, h19⟩ := ob h16
    refine GX_stA hC e18 (alLand4 ht) dX2_addPerson_46 ?_
    refine GX_aload_n hC dX2_addPerson_47 rfl ?_
    refine GX_getR hC fkX2_38 (olLand ht) rfl dX2_addPerson_48 ?_
    refine GX_iload_n hC dX2_addPerson_51 rfl ?_
    refine GX_iload_n hC dX2_addPerson_52 rfl ?_
    obtain ⟨m20, e21, h22⟩ := ob h19
    refine GX_stA hC e21 (alLand5 ht) dX2_addPerson_53 ?_
    refine GX_iconst hC 0 dX2_addPerson_54 rfl ?_
    refine GX_istore hC [some (.ref (gad Γ t)), some (.int purse1), some (.int kinOfOne2), some (.int p11), some (.int 0)] dX2_addPerson_55 (by decide) rfl rfl ?_
    obtain ⟨o23, e24, h25⟩ := ob h22
    suffices hJ26 : ∀ (m29 : MI), m29 = o23 → GX Γ LAY 0 0 [some (.ref (gad Γ t)), some (.int purse1), some (.int kinOfOne2), some (.int p11), none] [] m29 89 by
      refine lp_walk (P := fun s => GX Γ LAY 0 0 [some (.ref (gad Γ t)), some (.int purse1), some (.int kinOfOne2), some (.int p11), some (.int s.1)] [] s.2 57) (fun s x hx26 hI26 hO26 => ?_) _ _ e24
      obtain ⟨f27, m28⟩ := s
      show GX Γ LAY 0 0 [some (.ref (gad Γ t)), some (.int purse1), some (.int kinOfOne2), some (.int p11), some (.int f27)] [] m28 57
      dsimp only [Land_addPerson_s1] at hx26
      refine GX_iload hC dX2_addPerson_57 rfl ?_
      refine GX_aload_n hC dX2_addPerson_59 rfl ?_
      refine GX_getI hC fkX2_9 (olLand ht) rfl dX2_addPerson_60 ?_
      refine GX_icmp_ge_N hC 89 dX2_addPerson_63 (by decide) (fun q => ?_) (fun q => ?_)
      · skip
        have h30 := ifP q hx26
        refine GX_aload_n hC dX2_addPerson_66 rfl ?_
        refine GX_iload_n hC dX2_addPerson_67 rfl ?_
        refine GX_iload hC dX2_addPerson_68 rfl ?_
        refine GX_bipush hC 10 dX2_addPerson_70 rfl ?_
        refine GX_aload_n hC dX2_addPerson_72 rfl ?_
        refine GX_iload hC dX2_addPerson_73 rfl ?_
        obtain ⟨r31, e32, h33⟩ := ob h30
        refine GX_callV_i (st := [.int 10, .int f27, .int p11, .ref (gad Γ t)]) hC (C_Land_acresOf ht e32) okX2_acresOf lkX2_64 (olLand ht) rfl rfl (Nat.le_of_ble_eq_true rfl) (Nat.le_of_ble_eq_true rfl) hk rfl (Nat.le_of_ble_eq_true rfl) dX2_addPerson_75 ?_
        refine GX_imul hC dX2_addPerson_78 ?_
        obtain ⟨⟨b34, m35⟩, e36, h37⟩ := ob h33
        refine GX_callV_i (st := []) hC (C_Land_setWorth ht e36) okX2_setWorth lkX2_57 (olLand ht) rfl rfl (Nat.le_of_ble_eq_true rfl) (Nat.le_of_ble_eq_true rfl) hk rfl (Nat.le_of_ble_eq_true rfl) dX2_addPerson_79 ?_
        refine GX_pop hC dX2_addPerson_82 rfl ?_
        obtain ⟨i38, e39, h40⟩ := ob h37
        refine GX_iinc hC i38 [some (.ref (gad Γ t)), some (.int purse1), some (.int kinOfOne2), some (.int p11), some (.int i38)] dX2_addPerson_83 rfl (oi e39) (by decide) rfl rfl ?_
        refine GX_goto hC 57 dX2_addPerson_86 (by decide) ?_
        exact hI26 _ (oi h40).symm
      · skip
        have h41 := ifN q hx26
        exact GX.le (hJ26 _ (hO26 _ (oi h41).symm)) ⟨rfl, ⟨rfl, ⟨rfl, ⟨rfl, trivial⟩⟩⟩⟩
    intro m29 q42
    subst q42
    refine GX_iconst hC (bI true) dX2_addPerson_89 rfl ?_
    exact GX_zretW hC true hR dX2_addPerson_90 (oi h25)
  refine GX_aload_n hC dX2_addPerson_0 rfl ?_
  refine GX_getI hC fkX2_15 (olLand ht) rfl dX2_addPerson_1 ?_
  refine GX_if_lt_P hC 23 dX2_addPerson_4 (by decide) (fun q => ?_) (fun q => ?_)
  · skip
    have h43 := ifP q e5
    exact hc7 (oi h43)
  · skip
    have h44 := ifN q e5
    refine GX_aload_n hC dX2_addPerson_7 rfl ?_
    refine GX_getI hC fkX2_15 (olLand ht) rfl dX2_addPerson_8 ?_
    refine GX_iconst hC 3 dX2_addPerson_11 rfl ?_
    refine GX_icmp_ge_P hC 23 dX2_addPerson_12 (by decide) (fun q => ?_) (fun q => ?_)
    · skip
      have h45 := ifP q h44
      exact hc7 (oi h45)
    · skip
      have h46 := ifN q h44
      refine GX_aload_n hC dX2_addPerson_15 rfl ?_
      refine GX_iload_n hC dX2_addPerson_16 rfl ?_
      obtain ⟨b47, e48, h49⟩ := ob h46
      refine GX_callV_i (st := []) hC (C_Land_isOwner ht e48) okX2_isOwner lkX2_61 (olLand ht) rfl rfl (Nat.le_of_ble_eq_true rfl) (Nat.le_of_ble_eq_true rfl) hk rfl (Nat.le_of_ble_eq_true rfl) dX2_addPerson_17 ?_
      refine GX_ifb_ne hC 25 dX2_addPerson_20 (by decide) (fun q => ?_) (fun q => ?_)
      · skip
        exact hc9 (cbnT q h49)
      · skip
        exact hc7 (cbnF q h49)
set_option maxRecDepth 100000 in
set_option maxHeartbeats 4000000 in
theorem C_Land_bars {l : Launch} {t : Nat} {a1 : Int32} {b2 : Int32} {m3 : MI} {r0 : Bool} (ht : isLand t) (hf : Land_bars t a1 b2 m3 = some r0) : Cn l yX2_bars cX2_bars 4 (some .boolean) 1 LAY (fun ad => .ref (ad t) :: [.int a1, .int b2]) m3 (fun _ => some (.int (bI r0))) m3 := by
  refine Cn.of (fun ad => [some (.ref (ad t)), some (.int a1), some (.int b2), none]) (by decide +kernel) (fun _ => rfl) (fun _ => Nat.le_of_ble_eq_true rfl) (fun Γ hl hC hR hk => ?_)
  subst hl
  replace hC : CX Γ cX2_bars RX2 LAY 1 4 := hC
  dsimp only [Land_bars] at hf
  obtain ⟨c4, e5, h6⟩ := ob hf
  have hc7 : true = c4 → GX Γ LAY 0 0 [some (.ref (gad Γ t)), some (.int a1), some (.int b2), none] [] m3 16 := by
    intro q
    have h8 := ifT q.symm h6
    refine GX_iconst hC (bI false) dX2_bars_16 rfl ?_
    exact GX_zretR hC false hR dX2_bars_17 (oi h8)
  have hc9 : false = c4 → GX Γ LAY 0 0 [some (.ref (gad Γ t)), some (.int a1), some (.int b2), none] [] m3 18 := by
    intro q
    have h10 := ifF q.symm h6
    refine GX_aload_n hC dX2_bars_18 rfl ?_
    refine GX_getR hC fkX2_32 (olLand ht) rfl dX2_bars_19 ?_
    refine GX_iload_n hC dX2_bars_22 rfl ?_
    refine GX_bipush hC 6 dX2_bars_23 rfl ?_
    refine GX_imul hC dX2_bars_25 ?_
    refine GX_iload_n hC dX2_bars_26 rfl ?_
    refine GX_iadd hC dX2_bars_27 ?_
    obtain ⟨x11, e12, h13⟩ := ob h10
    refine GX_ldA hC e12 (alLand3 ht) dX2_bars_28 ?_
    refine GX_istore_n hC [some (.ref (gad Γ t)), some (.int a1), some (.int b2), some (.int x11)] dX2_bars_29 (by decide) rfl rfl ?_
    obtain ⟨c14, e15, h16⟩ := ob h13
    suffices hJ17 : GX Γ LAY 0 0 [some (.ref (gad Γ t)), some (.int a1), some (.int b2), some (.int x11)] [.int (bI c14)] m3 52 by
      have hc18 : true = c14 → GX Γ LAY 0 0 [some (.ref (gad Γ t)), some (.int a1), some (.int b2), some (.int x11)] [] m3 47 := by
        intro q
        subst q
        refine GX_iconst hC (bI true) dX2_bars_47 rfl ?_
        refine GX_goto hC 52 dX2_bars_48 (by decide) ?_
        exact hJ17
      have hc19 : false = c14 → GX Γ LAY 0 0 [some (.ref (gad Γ t)), some (.int a1), some (.int b2), some (.int x11)] [] m3 51 := by
        intro q
        subst q
        refine GX_iconst hC (bI false) dX2_bars_51 rfl ?_
        exact hJ17
      refine GX_iload_n hC dX2_bars_30 rfl ?_
      refine GX_iconst hC 1 dX2_bars_31 rfl ?_
      refine GX_icmp_eq_P hC 47 dX2_bars_32 (by decide) (fun q => ?_) (fun q => ?_)
      · skip
        have h20 := ifP q e15
        exact hc18 (oi h20)
      · skip
        have h21 := ifN q e15
        refine GX_iload_n hC dX2_bars_35 rfl ?_
        refine GX_iconst hC 3 dX2_bars_36 rfl ?_
        refine GX_icmp_ne_N hC 51 dX2_bars_37 (by decide) (fun q => ?_) (fun q => ?_)
        · skip
          have h22 := ifP q h21
          refine GX_aload_n hC dX2_bars_40 rfl ?_
          obtain ⟨b23, e24, h25⟩ := ob h22
          refine GX_ldZ hC e24 fkX2_18 (olLand ht) rfl dX2_bars_41 ?_
          refine GX_ifb_eq hC 51 dX2_bars_44 (by decide) (fun q => ?_) (fun q => ?_)
          · skip
            exact hc18 (cbT q h25)
          · skip
            exact hc19 (cbF q h25)
        · skip
          have h26 := ifN q h21
          exact hc19 (oi h26)
    exact GX_zretR hC c14 hR dX2_bars_52 (oi h16)
  refine GX_aload_n hC dX2_bars_0 rfl ?_
  refine GX_iload_n hC dX2_bars_1 rfl ?_
  obtain ⟨b27, e28, h29⟩ := ob e5
  refine GX_callV_i (st := []) hC (C_Land_isField ht e28) okX2_isField lkX2_54 (olLand ht) rfl rfl (Nat.le_of_ble_eq_true rfl) (Nat.le_of_ble_eq_true rfl) hk rfl (Nat.le_of_ble_eq_true rfl) dX2_bars_2 ?_
  refine GX_ifb_eq hC 16 dX2_bars_5 (by decide) (fun q => ?_) (fun q => ?_)
  · skip
    have h30 := ifT q h29
    refine GX_aload_n hC dX2_bars_8 rfl ?_
    refine GX_iload_n hC dX2_bars_9 rfl ?_
    obtain ⟨b31, e32, h33⟩ := ob h30
    refine GX_callV_i (st := []) hC (C_Land_isField ht e32) okX2_isField lkX2_54 (olLand ht) rfl rfl (Nat.le_of_ble_eq_true rfl) (Nat.le_of_ble_eq_true rfl) hk rfl (Nat.le_of_ble_eq_true rfl) dX2_bars_10 ?_
    refine GX_ifb_ne hC 18 dX2_bars_13 (by decide) (fun q => ?_) (fun q => ?_)
    · skip
      exact hc9 (cbnT q h33)
    · skip
      exact hc7 (cbnF q h33)
  · skip
    have h34 := ifF q h29
    exact hc7 (oi h34)
set_option maxRecDepth 100000 in
set_option maxHeartbeats 4000000 in
theorem C_Land_barBits {l : Launch} {t : Nat} {f1 : Int32} {m2 : MI} {r0 : Int32} (ht : isLand t) (hf : Land_barBits t f1 m2 = some r0) : Cn l yX2_barBits cX2_barBits 4 (some .int) 2 LAY (fun ad => .ref (ad t) :: [.int f1]) m2 (fun _ => some (.int r0)) m2 := by
  refine Cn.of (fun ad => [some (.ref (ad t)), some (.int f1), none, none]) (by decide +kernel) (fun _ => rfl) (fun _ => Nat.le_of_ble_eq_true rfl) (fun Γ hl hC hR hk => ?_)
  subst hl
  replace hC : CX Γ cX2_barBits RX2 LAY 2 4 := hC
  dsimp only [Land_barBits] at hf
  refine GX_iconst hC 0 dX2_barBits_0 rfl ?_
  refine GX_istore_n hC [some (.ref (gad Γ t)), some (.int f1), some (.int 0), none] dX2_barBits_1 (by decide) rfl rfl ?_
  refine GX_iconst hC 0 dX2_barBits_2 rfl ?_
  refine GX_istore_n hC [some (.ref (gad Γ t)), some (.int f1), some (.int 0), some (.int 0)] dX2_barBits_3 (by decide) rfl rfl ?_
  obtain ⟨o3, e4, h5⟩ := ob hf
  suffices hJ6 : ∀ (bits9 : Int32), bits9 = o3 → GX Γ LAY 0 0 [some (.ref (gad Γ t)), some (.int f1), some (.int bits9), none] [] m2 37 by
    refine lp_walk (P := fun s => GX Γ LAY 0 0 [some (.ref (gad Γ t)), some (.int f1), some (.int s.1), some (.int s.2)] [] m2 4) (fun s x hx6 hI6 hO6 => ?_) _ _ e4
    obtain ⟨bits7, g8⟩ := s
    show GX Γ LAY 0 0 [some (.ref (gad Γ t)), some (.int f1), some (.int bits7), some (.int g8)] [] m2 4
    dsimp only [Land_barBits_s1] at hx6
    refine GX_iload_n hC dX2_barBits_4 rfl ?_
    refine GX_aload_n hC dX2_barBits_5 rfl ?_
    refine GX_getI hC fkX2_9 (olLand ht) rfl dX2_barBits_6 ?_
    refine GX_icmp_ge_N hC 37 dX2_barBits_9 (by decide) (fun q => ?_) (fun q => ?_)
    · skip
      have h10 := ifP q hx6
      refine GX_iload_n hC dX2_barBits_12 rfl ?_
      obtain ⟨x11, e12, h13⟩ := ob h10
      suffices hJ14 : GX Γ LAY 0 0 [some (.ref (gad Γ t)), some (.int f1), some (.int bits7), some (.int g8)] [.int x11, .int bits7] m2 29 by
        refine GX_aload_n hC dX2_barBits_13 rfl ?_
        refine GX_iload_n hC dX2_barBits_14 rfl ?_
        refine GX_iload_n hC dX2_barBits_15 rfl ?_
        obtain ⟨b15, e16, h17⟩ := ob e12
        refine GX_callV_i (st := [.int bits7]) hC (C_Land_bars ht e16) okX2_bars lkX2_88 (olLand ht) rfl rfl (Nat.le_of_ble_eq_true rfl) (Nat.le_of_ble_eq_true rfl) hk rfl (Nat.le_of_ble_eq_true rfl) dX2_barBits_16 ?_
        refine GX_ifb_eq hC 28 dX2_barBits_19 (by decide) (fun q => ?_) (fun q => ?_)
        · skip
          have h18 := ifT q h17
          refine GX_iconst hC 1 dX2_barBits_22 rfl ?_
          refine GX_iload_n hC dX2_barBits_23 rfl ?_
          refine GX_ishl hC dX2_barBits_24 ?_
          refine GX_goto hC 29 dX2_barBits_25 (by decide) ?_
          exact GX_nm (oi h18) hJ14
        · skip
          have h19 := ifF q h17
          refine GX_iconst hC 0 dX2_barBits_28 rfl ?_
          exact GX_nm (oi h19) hJ14
      refine GX_ior hC dX2_barBits_29 ?_
      obtain ⟨bits20, e21, h22⟩ := ob h13
      refine GX_nm (oi e21) ?_
      refine GX_istore_n hC [some (.ref (gad Γ t)), some (.int f1), some (.int bits20), some (.int g8)] dX2_barBits_30 (by decide) rfl rfl ?_
      obtain ⟨i23, e24, h25⟩ := ob h22
      refine GX_iinc hC i23 [some (.ref (gad Γ t)), some (.int f1), some (.int bits20), some (.int i23)] dX2_barBits_31 rfl (oi e24) (by decide) rfl rfl ?_
      refine GX_goto hC 4 dX2_barBits_34 (by decide) ?_
      exact hI6 _ (oi h25).symm
    · skip
      have h26 := ifN q hx6
      exact GX.le (hJ6 _ (hO6 _ (oi h26).symm)) ⟨rfl, ⟨rfl, ⟨rfl, trivial⟩⟩⟩
  intro bits9 q27
  subst q27
  refine GX_iload_n hC dX2_barBits_37 rfl ?_
  exact GX_iretR hC hR dX2_barBits_38 (oi h5)
set_option maxRecDepth 100000 in
set_option maxHeartbeats 4000000 in
theorem C_Land_ownerOf {l : Launch} {t : Nat} {f1 : Int32} {m2 : MI} {r0 : Int32} (ht : isLand t) (hf : Land_ownerOf t f1 m2 = some r0) : Cn l yX2_ownerOf cX2_ownerOf 2 (some .int) 1 LAY (fun ad => .ref (ad t) :: [.int f1]) m2 (fun _ => some (.int r0)) m2 := by
  refine Cn.of (fun ad => [some (.ref (ad t)), some (.int f1)]) (by decide +kernel) (fun _ => rfl) (fun _ => Nat.le_of_ble_eq_true rfl) (fun Γ hl hC hR hk => ?_)
  subst hl
  replace hC : CX Γ cX2_ownerOf RX2 LAY 1 2 := hC
  dsimp only [Land_ownerOf] at hf
  obtain ⟨x3, e4, h5⟩ := ob hf
  suffices hJ6 : GX Γ LAY 0 0 [some (.ref (gad Γ t)), some (.int f1)] [.int x3] m2 19 by
    refine GX_aload_n hC dX2_ownerOf_0 rfl ?_
    refine GX_iload_n hC dX2_ownerOf_1 rfl ?_
    obtain ⟨b7, e8, h9⟩ := ob e4
    refine GX_callV_i (st := []) hC (C_Land_isField ht e8) okX2_isField lkX2_54 (olLand ht) rfl rfl (Nat.le_of_ble_eq_true rfl) (Nat.le_of_ble_eq_true rfl) hk rfl (Nat.le_of_ble_eq_true rfl) dX2_ownerOf_2 ?_
    refine GX_ifb_eq hC 17 dX2_ownerOf_5 (by decide) (fun q => ?_) (fun q => ?_)
    · skip
      have h10 := ifT q h9
      refine GX_aload_n hC dX2_ownerOf_8 rfl ?_
      refine GX_getR hC fkX2_29 (olLand ht) rfl dX2_ownerOf_9 ?_
      refine GX_iload_n hC dX2_ownerOf_12 rfl ?_
      obtain ⟨x11, e12, h13⟩ := ob h10
      refine GX_ldA hC e12 (alLand2 ht) dX2_ownerOf_13 ?_
      refine GX_goto hC 19 dX2_ownerOf_14 (by decide) ?_
      exact GX_nm (oi h13) hJ6
    · skip
      have h14 := ifF q h9
      refine GX_bipush hC 9 dX2_ownerOf_17 rfl ?_
      exact GX_nm (oi h14) hJ6
  exact GX_iretR hC hR dX2_ownerOf_19 (oi h5)
set_option maxRecDepth 100000 in
set_option maxHeartbeats 4000000 in
theorem C_Land_coinsOf {l : Launch} {t : Nat} {p1 : Int32} {m2 : MI} {r0 : Int32} (ht : isLand t) (hf : Land_coinsOf t p1 m2 = some r0) : Cn l yX2_coinsOf cX2_coinsOf 2 (some .int) 1 LAY (fun ad => .ref (ad t) :: [.int p1]) m2 (fun _ => some (.int r0)) m2 := by
  refine Cn.of (fun ad => [some (.ref (ad t)), some (.int p1)]) (by decide +kernel) (fun _ => rfl) (fun _ => Nat.le_of_ble_eq_true rfl) (fun Γ hl hC hR hk => ?_)
  subst hl
  replace hC : CX Γ cX2_coinsOf RX2 LAY 1 2 := hC
  dsimp only [Land_coinsOf] at hf
  obtain ⟨x3, e4, h5⟩ := ob hf
  suffices hJ6 : GX Γ LAY 0 0 [some (.ref (gad Γ t)), some (.int p1)] [.int x3] m2 18 by
    refine GX_aload_n hC dX2_coinsOf_0 rfl ?_
    refine GX_iload_n hC dX2_coinsOf_1 rfl ?_
    obtain ⟨b7, e8, h9⟩ := ob e4
    refine GX_callV_i (st := []) hC (C_Land_isPerson ht e8) okX2_isPerson lkX2_50 (olLand ht) rfl rfl (Nat.le_of_ble_eq_true rfl) (Nat.le_of_ble_eq_true rfl) hk rfl (Nat.le_of_ble_eq_true rfl) dX2_coinsOf_2 ?_
    refine GX_ifb_eq hC 17 dX2_coinsOf_5 (by decide) (fun q => ?_) (fun q => ?_)
    · skip
      have h10 := ifT q h9
      refine GX_aload_n hC dX2_coinsOf_8 rfl ?_
      refine GX_getR hC fkX2_35 (olLand ht) rfl dX2_coinsOf_9 ?_
      refine GX_iload_n hC dX2_coinsOf_12 rfl ?_
      obtain ⟨x11, e12, h13⟩ := ob h10
      refine GX_ldA hC e12 (alLand4 ht) dX2_coinsOf_13 ?_
      refine GX_goto hC 18 dX2_coinsOf_14 (by decide) ?_
      exact GX_nm (oi h13) hJ6
    · skip
      have h14 := ifF q h9
      refine GX_iconst hC 0 dX2_coinsOf_17 rfl ?_
      exact GX_nm (oi h14) hJ6
  exact GX_iretR hC hR dX2_coinsOf_18 (oi h5)
set_option maxRecDepth 100000 in
set_option maxHeartbeats 4000000 in
theorem C_Land_fieldBits {l : Launch} {t : Nat} {p1 : Int32} {m2 : MI} {r0 : Int32} (ht : isLand t) (hf : Land_fieldBits t p1 m2 = some r0) : Cn l yX2_fieldBits cX2_fieldBits 4 (some .int) 2 LAY (fun ad => .ref (ad t) :: [.int p1]) m2 (fun _ => some (.int r0)) m2 := by
  refine Cn.of (fun ad => [some (.ref (ad t)), some (.int p1), none, none]) (by decide +kernel) (fun _ => rfl) (fun _ => Nat.le_of_ble_eq_true rfl) (fun Γ hl hC hR hk => ?_)
  subst hl
  replace hC : CX Γ cX2_fieldBits RX2 LAY 2 4 := hC
  dsimp only [Land_fieldBits] at hf
  refine GX_iconst hC 0 dX2_fieldBits_0 rfl ?_
  refine GX_istore_n hC [some (.ref (gad Γ t)), some (.int p1), some (.int 0), none] dX2_fieldBits_1 (by decide) rfl rfl ?_
  refine GX_iconst hC 0 dX2_fieldBits_2 rfl ?_
  refine GX_istore_n hC [some (.ref (gad Γ t)), some (.int p1), some (.int 0), some (.int 0)] dX2_fieldBits_3 (by decide) rfl rfl ?_
  obtain ⟨o3, e4, h5⟩ := ob hf
  suffices hJ6 : ∀ (bits9 : Int32), bits9 = o3 → GX Γ LAY 0 0 [some (.ref (gad Γ t)), some (.int p1), some (.int bits9), none] [] m2 37 by
    refine lp_walk (P := fun s => GX Γ LAY 0 0 [some (.ref (gad Γ t)), some (.int p1), some (.int s.1), some (.int s.2)] [] m2 4) (fun s x hx6 hI6 hO6 => ?_) _ _ e4
    obtain ⟨bits7, f8⟩ := s
    show GX Γ LAY 0 0 [some (.ref (gad Γ t)), some (.int p1), some (.int bits7), some (.int f8)] [] m2 4
    dsimp only [Land_fieldBits_s1] at hx6
    refine GX_iload_n hC dX2_fieldBits_4 rfl ?_
    refine GX_aload_n hC dX2_fieldBits_5 rfl ?_
    refine GX_getI hC fkX2_9 (olLand ht) rfl dX2_fieldBits_6 ?_
    refine GX_icmp_ge_N hC 37 dX2_fieldBits_9 (by decide) (fun q => ?_) (fun q => ?_)
    · skip
      have h10 := ifP q hx6
      refine GX_iload_n hC dX2_fieldBits_12 rfl ?_
      obtain ⟨x11, e12, h13⟩ := ob h10
      suffices hJ14 : GX Γ LAY 0 0 [some (.ref (gad Γ t)), some (.int p1), some (.int bits7), some (.int f8)] [.int x11, .int bits7] m2 29 by
        refine GX_aload_n hC dX2_fieldBits_13 rfl ?_
        refine GX_iload_n hC dX2_fieldBits_14 rfl ?_
        obtain ⟨r15, e16, h17⟩ := ob e12
        refine GX_callV_i (st := [.int bits7]) hC (C_Land_ownerOf ht e16) okX2_ownerOf lkX2_97 (olLand ht) rfl rfl (Nat.le_of_ble_eq_true rfl) (Nat.le_of_ble_eq_true rfl) hk rfl (Nat.le_of_ble_eq_true rfl) dX2_fieldBits_15 ?_
        refine GX_iload_n hC dX2_fieldBits_18 rfl ?_
        refine GX_icmp_ne_N hC 28 dX2_fieldBits_19 (by decide) (fun q => ?_) (fun q => ?_)
        · skip
          have h18 := ifP q h17
          refine GX_iconst hC 1 dX2_fieldBits_22 rfl ?_
          refine GX_iload_n hC dX2_fieldBits_23 rfl ?_
          refine GX_ishl hC dX2_fieldBits_24 ?_
          refine GX_goto hC 29 dX2_fieldBits_25 (by decide) ?_
          exact GX_nm (oi h18) hJ14
        · skip
          have h19 := ifN q h17
          refine GX_iconst hC 0 dX2_fieldBits_28 rfl ?_
          exact GX_nm (oi h19) hJ14
      refine GX_ior hC dX2_fieldBits_29 ?_
      obtain ⟨bits20, e21, h22⟩ := ob h13
      refine GX_nm (oi e21) ?_
      refine GX_istore_n hC [some (.ref (gad Γ t)), some (.int p1), some (.int bits20), some (.int f8)] dX2_fieldBits_30 (by decide) rfl rfl ?_
      obtain ⟨i23, e24, h25⟩ := ob h22
      refine GX_iinc hC i23 [some (.ref (gad Γ t)), some (.int p1), some (.int bits20), some (.int i23)] dX2_fieldBits_31 rfl (oi e24) (by decide) rfl rfl ?_
      refine GX_goto hC 4 dX2_fieldBits_34 (by decide) ?_
      exact hI6 _ (oi h25).symm
    · skip
      have h26 := ifN q hx6
      exact GX.le (hJ6 _ (hO6 _ (oi h26).symm)) ⟨rfl, ⟨rfl, ⟨rfl, trivial⟩⟩⟩
  intro bits9 q27
  subst q27
  refine GX_iload_n hC dX2_fieldBits_37 rfl ?_
  exact GX_iretR hC hR dX2_fieldBits_38 (oi h5)
set_option maxRecDepth 100000 in
set_option maxHeartbeats 4000000 in
theorem C_Land_kinOf {l : Launch} {t : Nat} {p1 : Int32} {m2 : MI} {r0 : Int32} (ht : isLand t) (hf : Land_kinOf t p1 m2 = some r0) : Cn l yX2_kinOf cX2_kinOf 2 (some .int) 1 LAY (fun ad => .ref (ad t) :: [.int p1]) m2 (fun _ => some (.int r0)) m2 := by
  refine Cn.of (fun ad => [some (.ref (ad t)), some (.int p1)]) (by decide +kernel) (fun _ => rfl) (fun _ => Nat.le_of_ble_eq_true rfl) (fun Γ hl hC hR hk => ?_)
  subst hl
  replace hC : CX Γ cX2_kinOf RX2 LAY 1 2 := hC
  dsimp only [Land_kinOf] at hf
  obtain ⟨x3, e4, h5⟩ := ob hf
  suffices hJ6 : GX Γ LAY 0 0 [some (.ref (gad Γ t)), some (.int p1)] [.int x3] m2 19 by
    refine GX_aload_n hC dX2_kinOf_0 rfl ?_
    refine GX_iload_n hC dX2_kinOf_1 rfl ?_
    obtain ⟨b7, e8, h9⟩ := ob e4
    refine GX_callV_i (st := []) hC (C_Land_isPerson ht e8) okX2_isPerson lkX2_50 (olLand ht) rfl rfl (Nat.le_of_ble_eq_true rfl) (Nat.le_of_ble_eq_true rfl) hk rfl (Nat.le_of_ble_eq_true rfl) dX2_kinOf_2 ?_
    refine GX_ifb_eq hC 17 dX2_kinOf_5 (by decide) (fun q => ?_) (fun q => ?_)
    · skip
      have h10 := ifT q h9
      refine GX_aload_n hC dX2_kinOf_8 rfl ?_
      refine GX_getR hC fkX2_38 (olLand ht) rfl dX2_kinOf_9 ?_
      refine GX_iload_n hC dX2_kinOf_12 rfl ?_
      obtain ⟨x11, e12, h13⟩ := ob h10
      refine GX_ldA hC e12 (alLand5 ht) dX2_kinOf_13 ?_
      refine GX_goto hC 19 dX2_kinOf_14 (by decide) ?_
      exact GX_nm (oi h13) hJ6
    · skip
      have h14 := ifF q h9
      refine GX_bipush hC 9 dX2_kinOf_17 rfl ?_
      exact GX_nm (oi h14) hJ6
  exact GX_iretR hC hR dX2_kinOf_19 (oi h5)
set_option maxRecDepth 100000 in
set_option maxHeartbeats 4000000 in
theorem C_Land_worthTo {l : Launch} {t : Nat} {p1 : Int32} {f2 : Int32} {m3 : MI} {r0 : Int32} (ht : isLand t) (hf : Land_worthTo t p1 f2 m3 = some r0) : Cn l yX2_worthTo cX2_worthTo 3 (some .int) 1 LAY (fun ad => .ref (ad t) :: [.int p1, .int f2]) m3 (fun _ => some (.int r0)) m3 := by
  refine Cn.of (fun ad => [some (.ref (ad t)), some (.int p1), some (.int f2)]) (by decide +kernel) (fun _ => rfl) (fun _ => Nat.le_of_ble_eq_true rfl) (fun Γ hl hC hR hk => ?_)
  subst hl
  replace hC : CX Γ cX2_worthTo RX2 LAY 1 3 := hC
  dsimp only [Land_worthTo] at hf
  obtain ⟨x4, e5, h6⟩ := ob hf
  suffices hJ7 : GX Γ LAY 0 0 [some (.ref (gad Γ t)), some (.int p1), some (.int f2)] [.int x4] m3 31 by
    obtain ⟨c8, e9, h10⟩ := ob e5
    have hc11 : true = c8 → GX Γ LAY 0 0 [some (.ref (gad Γ t)), some (.int p1), some (.int f2)] [] m3 16 := by
      intro q
      have h12 := ifT q.symm h10
      refine GX_aload_n hC dX2_worthTo_16 rfl ?_
      refine GX_getR hC fkX2_41 (olLand ht) rfl dX2_worthTo_17 ?_
      refine GX_iload_n hC dX2_worthTo_20 rfl ?_
      refine GX_bipush hC 6 dX2_worthTo_21 rfl ?_
      refine GX_imul hC dX2_worthTo_23 ?_
      refine GX_iload_n hC dX2_worthTo_24 rfl ?_
      refine GX_iadd hC dX2_worthTo_25 ?_
      obtain ⟨x13, e14, h15⟩ := ob h12
      refine GX_ldA hC e14 (alLand6 ht) dX2_worthTo_26 ?_
      refine GX_goto hC 31 dX2_worthTo_27 (by decide) ?_
      exact GX_nm (oi h15) hJ7
    have hc16 : false = c8 → GX Γ LAY 0 0 [some (.ref (gad Γ t)), some (.int p1), some (.int f2)] [] m3 30 := by
      intro q
      have h17 := ifF q.symm h10
      refine GX_iconst hC 0 dX2_worthTo_30 rfl ?_
      exact GX_nm (oi h17) hJ7
    refine GX_aload_n hC dX2_worthTo_0 rfl ?_
    refine GX_iload_n hC dX2_worthTo_1 rfl ?_
    obtain ⟨b18, e19, h20⟩ := ob e9
    refine GX_callV_i (st := []) hC (C_Land_isPerson ht e19) okX2_isPerson lkX2_50 (olLand ht) rfl rfl (Nat.le_of_ble_eq_true rfl) (Nat.le_of_ble_eq_true rfl) hk rfl (Nat.le_of_ble_eq_true rfl) dX2_worthTo_2 ?_
    refine GX_ifb_eq hC 30 dX2_worthTo_5 (by decide) (fun q => ?_) (fun q => ?_)
    · skip
      have h21 := ifT q h20
      refine GX_aload_n hC dX2_worthTo_8 rfl ?_
      refine GX_iload_n hC dX2_worthTo_9 rfl ?_
      obtain ⟨b22, e23, h24⟩ := ob h21
      refine GX_callV_i (st := []) hC (C_Land_isField ht e23) okX2_isField lkX2_54 (olLand ht) rfl rfl (Nat.le_of_ble_eq_true rfl) (Nat.le_of_ble_eq_true rfl) hk rfl (Nat.le_of_ble_eq_true rfl) dX2_worthTo_10 ?_
      refine GX_ifb_eq hC 30 dX2_worthTo_13 (by decide) (fun q => ?_) (fun q => ?_)
      · skip
        exact hc11 (cbT q h24)
      · skip
        exact hc16 (cbF q h24)
    · skip
      have h25 := ifF q h20
      exact hc16 (oi h25)
  exact GX_iretR hC hR dX2_worthTo_31 (oi h6)
set_option maxRecDepth 100000 in
set_option maxHeartbeats 4000000 in
theorem C_Land_worthOfBits {l : Launch} {t : Nat} {p1 : Int32} {bits2 : Int32} {m3 : MI} {r0 : Int32} (ht : isLand t) (hf : Land_worthOfBits t p1 bits2 m3 = some r0) : Cn l yX2_worthOfBits cX2_worthOfBits 5 (some .int) 2 LAY (fun ad => .ref (ad t) :: [.int p1, .int bits2]) m3 (fun _ => some (.int r0)) m3 := by
  refine Cn.of (fun ad => [some (.ref (ad t)), some (.int p1), some (.int bits2), none, none]) (by decide +kernel) (fun _ => rfl) (fun _ => Nat.le_of_ble_eq_true rfl) (fun Γ hl hC hR hk => ?_)
  subst hl
  replace hC : CX Γ cX2_worthOfBits RX2 LAY 2 5 := hC
  dsimp only [Land_worthOfBits] at hf
  refine GX_iconst hC 0 dX2_worthOfBits_0 rfl ?_
  refine GX_istore_n hC [some (.ref (gad Γ t)), some (.int p1), some (.int bits2), some (.int 0), none] dX2_worthOfBits_1 (by decide) rfl rfl ?_
  refine GX_iconst hC 0 dX2_worthOfBits_2 rfl ?_
  refine GX_istore hC [some (.ref (gad Γ t)), some (.int p1), some (.int bits2), some (.int 0), some (.int 0)] dX2_worthOfBits_3 (by decide) rfl rfl ?_
  obtain ⟨o4, e5, h6⟩ := ob hf
  suffices hJ7 : ∀ (worth10 : Int32), worth10 = o4 → GX Γ LAY 0 0 [some (.ref (gad Γ t)), some (.int p1), some (.int bits2), some (.int worth10), none] [] m3 44 by
    refine lp_walk (P := fun s => GX Γ LAY 0 0 [some (.ref (gad Γ t)), some (.int p1), some (.int bits2), some (.int s.1), some (.int s.2)] [] m3 5) (fun s x hx7 hI7 hO7 => ?_) _ _ e5
    obtain ⟨worth8, f9⟩ := s
    show GX Γ LAY 0 0 [some (.ref (gad Γ t)), some (.int p1), some (.int bits2), some (.int worth8), some (.int f9)] [] m3 5
    dsimp only [Land_worthOfBits_s1] at hx7
    refine GX_iload hC dX2_worthOfBits_5 rfl ?_
    refine GX_aload_n hC dX2_worthOfBits_7 rfl ?_
    refine GX_getI hC fkX2_9 (olLand ht) rfl dX2_worthOfBits_8 ?_
    refine GX_icmp_ge_N hC 44 dX2_worthOfBits_11 (by decide) (fun q => ?_) (fun q => ?_)
    · skip
      have h11 := ifP q hx7
      refine GX_iload_n hC dX2_worthOfBits_14 rfl ?_
      obtain ⟨x12, e13, h14⟩ := ob h11
      suffices hJ15 : GX Γ LAY 0 0 [some (.ref (gad Γ t)), some (.int p1), some (.int bits2), some (.int worth8), some (.int f9)] [.int x12, .int worth8] m3 36 by
        refine GX_iload_n hC dX2_worthOfBits_15 rfl ?_
        refine GX_iload hC dX2_worthOfBits_16 rfl ?_
        refine GX_ishr hC dX2_worthOfBits_18 ?_
        refine GX_iconst hC 1 dX2_worthOfBits_19 rfl ?_
        refine GX_iand hC dX2_worthOfBits_20 ?_
        refine GX_iconst hC 1 dX2_worthOfBits_21 rfl ?_
        refine GX_icmp_ne_N hC 35 dX2_worthOfBits_22 (by decide) (fun q => ?_) (fun q => ?_)
        · skip
          have h16 := ifP q e13
          refine GX_aload_n hC dX2_worthOfBits_25 rfl ?_
          refine GX_iload_n hC dX2_worthOfBits_26 rfl ?_
          refine GX_iload hC dX2_worthOfBits_27 rfl ?_
          obtain ⟨r17, e18, h19⟩ := ob h16
          refine GX_callV_i (st := [.int worth8]) hC (C_Land_worthTo ht e18) okX2_worthTo lkX2_103 (olLand ht) rfl rfl (Nat.le_of_ble_eq_true rfl) (Nat.le_of_ble_eq_true rfl) hk rfl (Nat.le_of_ble_eq_true rfl) dX2_worthOfBits_29 ?_
          refine GX_goto hC 36 dX2_worthOfBits_32 (by decide) ?_
          exact GX_nm (oi h19) hJ15
        · skip
          have h20 := ifN q e13
          refine GX_iconst hC 0 dX2_worthOfBits_35 rfl ?_
          exact GX_nm (oi h20) hJ15
      refine GX_iadd hC dX2_worthOfBits_36 ?_
      obtain ⟨worth21, e22, h23⟩ := ob h14
      refine GX_nm (oi e22) ?_
      refine GX_istore_n hC [some (.ref (gad Γ t)), some (.int p1), some (.int bits2), some (.int worth21), some (.int f9)] dX2_worthOfBits_37 (by decide) rfl rfl ?_
      obtain ⟨i24, e25, h26⟩ := ob h23
      refine GX_iinc hC i24 [some (.ref (gad Γ t)), some (.int p1), some (.int bits2), some (.int worth21), some (.int i24)] dX2_worthOfBits_38 rfl (oi e25) (by decide) rfl rfl ?_
      refine GX_goto hC 5 dX2_worthOfBits_41 (by decide) ?_
      exact hI7 _ (oi h26).symm
    · skip
      have h27 := ifN q hx7
      exact GX.le (hJ7 _ (hO7 _ (oi h27).symm)) ⟨rfl, ⟨rfl, ⟨rfl, ⟨rfl, trivial⟩⟩⟩⟩
  intro worth10 q28
  subst q28
  refine GX_iload_n hC dX2_worthOfBits_44 rfl ?_
  exact GX_iretR hC hR dX2_worthOfBits_45 (oi h6)
set_option maxRecDepth 100000 in
set_option maxHeartbeats 4000000 in
theorem C_Land_worthOwned {l : Launch} {t : Nat} {p1 : Int32} {m2 : MI} {r0 : Int32} (ht : isLand t) (hf : Land_worthOwned t p1 m2 = some r0) : Cn l yX2_worthOwned cX2_worthOwned 2 (some .int) 3 LAY (fun ad => .ref (ad t) :: [.int p1]) m2 (fun _ => some (.int r0)) m2 := by
  refine Cn.of (fun ad => [some (.ref (ad t)), some (.int p1)]) (by decide +kernel) (fun _ => rfl) (fun _ => Nat.le_of_ble_eq_true rfl) (fun Γ hl hC hR hk => ?_)
  subst hl
  replace hC : CX Γ cX2_worthOwned RX2 LAY 3 2 := hC
  dsimp only [Land_worthOwned] at hf
  refine GX_aload_n hC dX2_worthOwned_0 rfl ?_
  refine GX_iload_n hC dX2_worthOwned_1 rfl ?_
  refine GX_aload_n hC dX2_worthOwned_2 rfl ?_
  refine GX_iload_n hC dX2_worthOwned_3 rfl ?_
  obtain ⟨r3, e4, h5⟩ := ob hf
  refine GX_callV_i (st := [.int p1, .ref (gad Γ t)]) hC (C_Land_fieldBits ht e4) okX2_fieldBits lkX2_106 (olLand ht) rfl rfl (Nat.le_of_ble_eq_true rfl) (Nat.le_of_ble_eq_true rfl) hk rfl (Nat.le_of_ble_eq_true rfl) dX2_worthOwned_4 ?_
  obtain ⟨r6, e7, h8⟩ := ob h5
  refine GX_callV_i (st := []) hC (C_Land_worthOfBits ht e7) okX2_worthOfBits lkX2_109 (olLand ht) rfl rfl (Nat.le_of_ble_eq_true rfl) (Nat.le_of_ble_eq_true rfl) hk rfl (Nat.le_of_ble_eq_true rfl) dX2_worthOwned_7 ?_
  exact GX_iretR hC hR dX2_worthOwned_10 (oi h8)
set_option maxRecDepth 100000 in
set_option maxHeartbeats 4000000 in
theorem C_Land_asOne {l : Launch} {t : Nat} {p1 : Int32} {q2 : Int32} {m3 : MI} {r0 : Bool} (ht : isLand t) (hf : Land_asOne t p1 q2 m3 = some r0) : Cn l yX2_asOne cX2_asOne 3 (some .boolean) 1 LAY (fun ad => .ref (ad t) :: [.int p1, .int q2]) m3 (fun _ => some (.int (bI r0))) m3 := by
  refine Cn.of (fun ad => [some (.ref (ad t)), some (.int p1), some (.int q2)]) (by decide +kernel) (fun _ => rfl) (fun _ => Nat.le_of_ble_eq_true rfl) (fun Γ hl hC hR hk => ?_)
  subst hl
  replace hC : CX Γ cX2_asOne RX2 LAY 1 3 := hC
  dsimp only [Land_asOne] at hf
  obtain ⟨c4, e5, h6⟩ := ob hf
  have hc7 : true = c4 → GX Γ LAY 0 0 [some (.ref (gad Γ t)), some (.int p1), some (.int q2)] [] m3 16 := by
    intro q
    have h8 := ifT q.symm h6
    refine GX_iconst hC (bI false) dX2_asOne_16 rfl ?_
    exact GX_zretR hC false hR dX2_asOne_17 (oi h8)
  have hc9 : false = c4 → GX Γ LAY 0 0 [some (.ref (gad Γ t)), some (.int p1), some (.int q2)] [] m3 18 := by
    intro q
    have h10 := ifF q.symm h6
    obtain ⟨c11, e12, h13⟩ := ob h10
    suffices hJ14 : GX Γ LAY 0 0 [some (.ref (gad Γ t)), some (.int p1), some (.int q2)] [.int (bI c11)] m3 55 by
      have hc15 : true = c11 → GX Γ LAY 0 0 [some (.ref (gad Γ t)), some (.int p1), some (.int q2)] [] m3 50 := by
        intro q
        subst q
        refine GX_iconst hC (bI true) dX2_asOne_50 rfl ?_
        refine GX_goto hC 55 dX2_asOne_51 (by decide) ?_
        exact hJ14
      have hc16 : false = c11 → GX Γ LAY 0 0 [some (.ref (gad Γ t)), some (.int p1), some (.int q2)] [] m3 54 := by
        intro q
        subst q
        refine GX_iconst hC (bI false) dX2_asOne_54 rfl ?_
        exact hJ14
      refine GX_iload_n hC dX2_asOne_18 rfl ?_
      refine GX_iload_n hC dX2_asOne_19 rfl ?_
      refine GX_icmp_eq_P hC 50 dX2_asOne_20 (by decide) (fun q => ?_) (fun q => ?_)
      · skip
        have h17 := ifP q e12
        exact hc15 (oi h17)
      · skip
        have h18 := ifN q e12
        refine GX_aload_n hC dX2_asOne_23 rfl ?_
        obtain ⟨b19, e20, h21⟩ := ob h18
        refine GX_ldZ hC e20 fkX2_22 (olLand ht) rfl dX2_asOne_24 ?_
        refine GX_ifb_eq hC 54 dX2_asOne_27 (by decide) (fun q => ?_) (fun q => ?_)
        · skip
          have h22 := ifT q h21
          refine GX_aload_n hC dX2_asOne_30 rfl ?_
          refine GX_getR hC fkX2_38 (olLand ht) rfl dX2_asOne_31 ?_
          refine GX_iload_n hC dX2_asOne_34 rfl ?_
          obtain ⟨x23, e24, h25⟩ := ob h22
          refine GX_ldA hC e24 (alLand5 ht) dX2_asOne_35 ?_
          refine GX_iload_n hC dX2_asOne_36 rfl ?_
          refine GX_icmp_eq_P hC 50 dX2_asOne_37 (by decide) (fun q => ?_) (fun q => ?_)
          · skip
            have h26 := ifP q h25
            exact hc15 (oi h26)
          · skip
            have h27 := ifN q h25
            refine GX_aload_n hC dX2_asOne_40 rfl ?_
            refine GX_getR hC fkX2_38 (olLand ht) rfl dX2_asOne_41 ?_
            refine GX_iload_n hC dX2_asOne_44 rfl ?_
            obtain ⟨x28, e29, h30⟩ := ob h27
            refine GX_ldA hC e29 (alLand5 ht) dX2_asOne_45 ?_
            refine GX_iload_n hC dX2_asOne_46 rfl ?_
            refine GX_icmp_ne_N hC 54 dX2_asOne_47 (by decide) (fun q => ?_) (fun q => ?_)
            · skip
              exact hc15 (cdT q h30)
            · skip
              exact hc16 (cdF q h30)
        · skip
          have h31 := ifF q h21
          exact hc16 (oi h31)
    exact GX_zretR hC c11 hR dX2_asOne_55 (oi h13)
  refine GX_aload_n hC dX2_asOne_0 rfl ?_
  refine GX_iload_n hC dX2_asOne_1 rfl ?_
  obtain ⟨b32, e33, h34⟩ := ob e5
  refine GX_callV_i (st := []) hC (C_Land_isPerson ht e33) okX2_isPerson lkX2_50 (olLand ht) rfl rfl (Nat.le_of_ble_eq_true rfl) (Nat.le_of_ble_eq_true rfl) hk rfl (Nat.le_of_ble_eq_true rfl) dX2_asOne_2 ?_
  refine GX_ifb_eq hC 16 dX2_asOne_5 (by decide) (fun q => ?_) (fun q => ?_)
  · skip
    have h35 := ifT q h34
    refine GX_aload_n hC dX2_asOne_8 rfl ?_
    refine GX_iload_n hC dX2_asOne_9 rfl ?_
    obtain ⟨b36, e37, h38⟩ := ob h35
    refine GX_callV_i (st := []) hC (C_Land_isPerson ht e37) okX2_isPerson lkX2_50 (olLand ht) rfl rfl (Nat.le_of_ble_eq_true rfl) (Nat.le_of_ble_eq_true rfl) hk rfl (Nat.le_of_ble_eq_true rfl) dX2_asOne_10 ?_
    refine GX_ifb_ne hC 18 dX2_asOne_13 (by decide) (fun q => ?_) (fun q => ?_)
    · skip
      exact hc9 (cbnT q h38)
    · skip
      exact hc7 (cbnF q h38)
  · skip
    have h39 := ifF q h34
    exact hc7 (oi h39)
set_option maxRecDepth 100000 in
set_option maxHeartbeats 4000000 in
theorem C_Land_firstOffence {l : Launch} {t : Nat} {soldBits1 : Int32} {m2 : MI} {r0 : Int32} (ht : isLand t) (hf : Land_firstOffence t soldBits1 m2 = some r0) : Cn l yX2_firstOffence cX2_firstOffence 5 (some .int) 2 LAY (fun ad => .ref (ad t) :: [.int soldBits1]) m2 (fun _ => some (.int r0)) m2 := by
  refine Cn.of (fun ad => [some (.ref (ad t)), some (.int soldBits1), none, none, none]) (by decide +kernel) (fun _ => rfl) (fun _ => Nat.le_of_ble_eq_true rfl) (fun Γ hl hC hR hk => ?_)
  subst hl
  replace hC : CX Γ cX2_firstOffence RX2 LAY 2 5 := hC
  dsimp only [Land_firstOffence] at hf
  refine GX_iconst hC 0 dX2_firstOffence_0 rfl ?_
  refine GX_istore_n hC [some (.ref (gad Γ t)), some (.int soldBits1), some (.int 0), none, none] dX2_firstOffence_1 (by decide) rfl rfl ?_
  obtain ⟨o3, e4, h5⟩ := ob hf
  have hR6 : ∀ res : Int32, Sum.inr res = o3 → res = r0 := by
    intro res q
    subst q
    have h5 := seR h5
    exact (oi h5)
  suffices hJ6 : Sum.inl () = o3 → GX Γ LAY 0 0 [some (.ref (gad Γ t)), some (.int soldBits1), none, none, none] [] m2 97 by
    refine lp_walk (P := fun s => GX Γ LAY 0 0 [some (.ref (gad Γ t)), some (.int soldBits1), some (.int s), none, none] [] m2 2) (fun a7 x hx6 hI6 hO6 => ?_) _ _ e4
    show GX Γ LAY 0 0 [some (.ref (gad Γ t)), some (.int soldBits1), some (.int a7), none, none] [] m2 2
    dsimp only [Land_firstOffence_s1] at hx6
    refine GX_iload_n hC dX2_firstOffence_2 rfl ?_
    refine GX_aload_n hC dX2_firstOffence_3 rfl ?_
    refine GX_getI hC fkX2_9 (olLand ht) rfl dX2_firstOffence_4 ?_
    refine GX_icmp_ge_N hC 97 dX2_firstOffence_7 (by decide) (fun q => ?_) (fun q => ?_)
    · skip
      have h8 := ifP q hx6
      refine GX_iload_n hC dX2_firstOffence_10 rfl ?_
      refine GX_iconst hC 1 dX2_firstOffence_11 rfl ?_
      refine GX_iadd hC dX2_firstOffence_12 ?_
      obtain ⟨b9, e10, h11⟩ := ob h8
      refine GX_nm (oi e10) ?_
      refine GX_istore_n hC [some (.ref (gad Γ t)), some (.int soldBits1), some (.int a7), some (.int b9), none] dX2_firstOffence_13 (by decide) rfl rfl ?_
      obtain ⟨o12, e13, h14⟩ := ob h11
      have hR15 : ∀ res : Int32, Sum.inr res = o12 → res = r0 := by
        intro res q
        subst q
        have h14 := seR h14
        exact (hR6 _ (hO6 _ (oi h14).symm))
      suffices hJ15 : Sum.inl () = o12 → GX Γ LAY 0 0 [some (.ref (gad Γ t)), some (.int soldBits1), some (.int a7), none, none] [] m2 91 by
        refine lp_walk (P := fun s => GX Γ LAY 0 0 [some (.ref (gad Γ t)), some (.int soldBits1), some (.int a7), some (.int s), none] [] m2 14) (fun b16 x hx15 hI15 hO15 => ?_) _ _ e13
        show GX Γ LAY 0 0 [some (.ref (gad Γ t)), some (.int soldBits1), some (.int a7), some (.int b16), none] [] m2 14
        dsimp only [Land_firstOffence_s2] at hx15
        refine GX_iload_n hC dX2_firstOffence_14 rfl ?_
        refine GX_aload_n hC dX2_firstOffence_15 rfl ?_
        refine GX_getI hC fkX2_9 (olLand ht) rfl dX2_firstOffence_16 ?_
        refine GX_icmp_ge_N hC 91 dX2_firstOffence_19 (by decide) (fun q => ?_) (fun q => ?_)
        · skip
          have h17 := ifP q hx15
          obtain ⟨c18, e19, h20⟩ := ob h17
          suffices hJ21 : GX Γ LAY 0 0 [some (.ref (gad Γ t)), some (.int soldBits1), some (.int a7), some (.int b16), none] [.int (bI c18)] m2 45 by
            have hc22 : true = c18 → GX Γ LAY 0 0 [some (.ref (gad Γ t)), some (.int soldBits1), some (.int a7), some (.int b16), none] [] m2 40 := by
              intro q
              subst q
              refine GX_iconst hC (bI true) dX2_firstOffence_40 rfl ?_
              refine GX_goto hC 45 dX2_firstOffence_41 (by decide) ?_
              exact hJ21
            have hc23 : false = c18 → GX Γ LAY 0 0 [some (.ref (gad Γ t)), some (.int soldBits1), some (.int a7), some (.int b16), none] [] m2 44 := by
              intro q
              subst q
              refine GX_iconst hC (bI false) dX2_firstOffence_44 rfl ?_
              exact hJ21
            refine GX_iload_n hC dX2_firstOffence_22 rfl ?_
            refine GX_iload_n hC dX2_firstOffence_23 rfl ?_
            refine GX_ishr hC dX2_firstOffence_24 ?_
            refine GX_iconst hC 1 dX2_firstOffence_25 rfl ?_
            refine GX_iand hC dX2_firstOffence_26 ?_
            refine GX_iconst hC 1 dX2_firstOffence_27 rfl ?_
            refine GX_icmp_eq_P hC 40 dX2_firstOffence_28 (by decide) (fun q => ?_) (fun q => ?_)
            · skip
              have h24 := ifP q e19
              exact hc22 (oi h24)
            · skip
              have h25 := ifN q e19
              refine GX_iload_n hC dX2_firstOffence_31 rfl ?_
              refine GX_iload_n hC dX2_firstOffence_32 rfl ?_
              refine GX_ishr hC dX2_firstOffence_33 ?_
              refine GX_iconst hC 1 dX2_firstOffence_34 rfl ?_
              refine GX_iand hC dX2_firstOffence_35 ?_
              refine GX_iconst hC 1 dX2_firstOffence_36 rfl ?_
              refine GX_icmp_ne_N hC 44 dX2_firstOffence_37 (by decide) (fun q => ?_) (fun q => ?_)
              · skip
                exact hc22 (cdT q h25)
              · skip
                exact hc23 (cdF q h25)
          refine GX_istore hC [some (.ref (gad Γ t)), some (.int soldBits1), some (.int a7), some (.int b16), some (.int (bI c18))] dX2_firstOffence_45 (by decide) rfl rfl ?_
          obtain ⟨c26, e27, h28⟩ := ob h20
          have hc29 : true = c26 → GX Γ LAY 0 0 [some (.ref (gad Γ t)), some (.int soldBits1), some (.int a7), some (.int b16), some (.int (bI c18))] [] m2 78 := by
            intro q
            have h30 := ifT q.symm h28
            refine GX_bipush hC 10 dX2_firstOffence_78 rfl ?_
            refine GX_iload_n hC dX2_firstOffence_80 rfl ?_
            refine GX_imul hC dX2_firstOffence_81 ?_
            refine GX_iload_n hC dX2_firstOffence_82 rfl ?_
            refine GX_iadd hC dX2_firstOffence_83 ?_
            exact GX_iretR hC hR dX2_firstOffence_84 (hR15 _ (hO15 _ (oi h30).symm))
          have hc31 : false = c26 → GX Γ LAY 0 0 [some (.ref (gad Γ t)), some (.int soldBits1), some (.int a7), some (.int b16), some (.int (bI c18))] [] m2 85 := by
            intro q
            have h32 := ifF q.symm h28
            obtain ⟨i33, e34, h35⟩ := ob h32
            refine GX_iinc hC i33 [some (.ref (gad Γ t)), some (.int soldBits1), some (.int a7), some (.int i33), some (.int (bI c18))] dX2_firstOffence_85 rfl (oi e34) (by decide) rfl rfl ?_
            refine GX_goto hC 14 dX2_firstOffence_88 (by decide) ?_
            exact GX.le (hI15 _ (oi h35).symm) ⟨rfl, ⟨rfl, ⟨rfl, ⟨rfl, trivial⟩⟩⟩⟩
          refine GX_iload hC dX2_firstOffence_47 rfl ?_
          refine GX_ifb_ne hC 85 dX2_firstOffence_49 (by decide) (fun q => ?_) (fun q => ?_)
          · skip
            have h36 := ifT q e27
            exact hc31 (oi h36)
          · skip
            have h37 := ifF q e27
            refine GX_aload_n hC dX2_firstOffence_52 rfl ?_
            refine GX_iload_n hC dX2_firstOffence_53 rfl ?_
            refine GX_iload_n hC dX2_firstOffence_54 rfl ?_
            obtain ⟨b38, e39, h40⟩ := ob h37
            refine GX_callV_i (st := []) hC (C_Land_bars ht e39) okX2_bars lkX2_88 (olLand ht) rfl rfl (Nat.le_of_ble_eq_true rfl) (Nat.le_of_ble_eq_true rfl) hk rfl (Nat.le_of_ble_eq_true rfl) dX2_firstOffence_55 ?_
            refine GX_ifb_eq hC 85 dX2_firstOffence_58 (by decide) (fun q => ?_) (fun q => ?_)
            · skip
              have h41 := ifT q h40
              refine GX_aload_n hC dX2_firstOffence_61 rfl ?_
              refine GX_aload_n hC dX2_firstOffence_62 rfl ?_
              refine GX_iload_n hC dX2_firstOffence_63 rfl ?_
              obtain ⟨r42, e43, h44⟩ := ob h41
              refine GX_callV_i (st := [.ref (gad Γ t)]) hC (C_Land_ownerOf ht e43) okX2_ownerOf lkX2_97 (olLand ht) rfl rfl (Nat.le_of_ble_eq_true rfl) (Nat.le_of_ble_eq_true rfl) hk rfl (Nat.le_of_ble_eq_true rfl) dX2_firstOffence_64 ?_
              refine GX_aload_n hC dX2_firstOffence_67 rfl ?_
              refine GX_iload_n hC dX2_firstOffence_68 rfl ?_
              obtain ⟨r45, e46, h47⟩ := ob h44
              refine GX_callV_i (st := [.int r42, .ref (gad Γ t)]) hC (C_Land_ownerOf ht e46) okX2_ownerOf lkX2_97 (olLand ht) rfl rfl (Nat.le_of_ble_eq_true rfl) (Nat.le_of_ble_eq_true rfl) hk rfl (Nat.le_of_ble_eq_true rfl) dX2_firstOffence_69 ?_
              obtain ⟨b48, e49, h50⟩ := ob h47
              refine GX_callV_i (st := []) hC (C_Land_asOne ht e49) okX2_asOne lkX2_100 (olLand ht) rfl rfl (Nat.le_of_ble_eq_true rfl) (Nat.le_of_ble_eq_true rfl) hk rfl (Nat.le_of_ble_eq_true rfl) dX2_firstOffence_72 ?_
              refine GX_ifb_eq hC 85 dX2_firstOffence_75 (by decide) (fun q => ?_) (fun q => ?_)
              · skip
                exact hc29 (cbT q h50)
              · skip
                exact hc31 (cbF q h50)
            · skip
              have h51 := ifF q h40
              exact hc31 (oi h51)
        · skip
          have h52 := ifN q hx15
          exact GX.le (hJ15 (hO15 _ (oi h52).symm)) ⟨rfl, ⟨rfl, ⟨rfl, trivial⟩⟩⟩
      intro q53
      subst q53
      have h14 := seL h14
      obtain ⟨i54, e55, h56⟩ := ob h14
      refine GX_iinc hC i54 [some (.ref (gad Γ t)), some (.int soldBits1), some (.int i54), none, none] dX2_firstOffence_91 rfl (oi e55) (by decide) rfl rfl ?_
      refine GX_goto hC 2 dX2_firstOffence_94 (by decide) ?_
      exact hI6 _ (oi h56).symm
    · skip
      have h58 := ifN q hx6
      exact GX.le (hJ6 (hO6 _ (oi h58).symm)) ⟨rfl, ⟨rfl, trivial⟩⟩
  intro q59
  subst q59
  have h5 := seL h5
  refine GX_bipush hC (-4) dX2_firstOffence_97 rfl ?_
  exact GX_iretR hC hR dX2_firstOffence_99 (oi h5)
set_option maxRecDepth 100000 in
set_option maxHeartbeats 4000000 in
theorem C_Land_isLawful {l : Launch} {t : Nat} {m1 : MI} {r0 : Bool} (ht : isLand t) (hf : Land_isLawful t m1 = some r0) : Cn l yX2_isLawful cX2_isLawful 1 (some .boolean) 3 LAY (fun ad => .ref (ad t) :: []) m1 (fun _ => some (.int (bI r0))) m1 := by
  refine Cn.of (fun ad => [some (.ref (ad t))]) (by decide +kernel) (fun _ => rfl) (fun _ => Nat.le_of_ble_eq_true rfl) (fun Γ hl hC hR hk => ?_)
  subst hl
  replace hC : CX Γ cX2_isLawful RX2 LAY 3 1 := hC
  dsimp only [Land_isLawful] at hf
  obtain ⟨c2, e3, h4⟩ := ob hf
  suffices hJ5 : GX Γ LAY 0 0 [some (.ref (gad Γ t))] [.int (bI c2)] m1 15 by
    have hc6 : true = c2 → GX Γ LAY 0 0 [some (.ref (gad Γ t))] [] m1 10 := by
      intro q
      subst q
      refine GX_iconst hC (bI true) dX2_isLawful_10 rfl ?_
      refine GX_goto hC 15 dX2_isLawful_11 (by decide) ?_
      exact hJ5
    have hc7 : false = c2 → GX Γ LAY 0 0 [some (.ref (gad Γ t))] [] m1 14 := by
      intro q
      subst q
      refine GX_iconst hC (bI false) dX2_isLawful_14 rfl ?_
      exact hJ5
    refine GX_aload_n hC dX2_isLawful_0 rfl ?_
    refine GX_iconst hC 0 dX2_isLawful_1 rfl ?_
    obtain ⟨r8, e9, h10⟩ := ob e3
    refine GX_callV_i (st := []) hC (C_Land_firstOffence ht e9) okX2_firstOffence lkX2_94 (olLand ht) rfl rfl (Nat.le_of_ble_eq_true rfl) (Nat.le_of_ble_eq_true rfl) hk rfl (Nat.le_of_ble_eq_true rfl) dX2_isLawful_2 ?_
    refine GX_bipush hC (-4) dX2_isLawful_5 rfl ?_
    refine GX_icmp_ne_N hC 14 dX2_isLawful_7 (by decide) (fun q => ?_) (fun q => ?_)
    · skip
      exact hc6 (cdT q h10)
    · skip
      exact hc7 (cdF q h10)
  exact GX_zretR hC c2 hR dX2_isLawful_15 (oi h4)
set_option maxRecDepth 100000 in
set_option maxHeartbeats 4000000 in
theorem C_Land_earn {l : Launch} {t : Nat} {p1 : Int32} {sum2 : Int32} {m3 : MI} {mr : MI} (ht : isLand t) (hf : Land_earn t p1 sum2 m3 = some mr) : Cn l yX2_earn cX2_earn 3 none 1 LAY (fun ad => .ref (ad t) :: [.int p1, .int sum2]) m3 (fun _ => none) mr := by
  refine Cn.of (fun ad => [some (.ref (ad t)), some (.int p1), some (.int sum2)]) (by decide +kernel) (fun _ => rfl) (fun _ => Nat.le_of_ble_eq_true rfl) (fun Γ hl hC hR hk => ?_)
  subst hl
  replace hC : CX Γ cX2_earn RX2 LAY 1 3 := hC
  dsimp only [Land_earn] at hf
  obtain ⟨o4, e5, h6⟩ := ob hf
  suffices hJ8 : ∀ (m7 : MI), m7 = o4 → GX Γ LAY 0 0 [some (.ref (gad Γ t)), some (.int p1), some (.int sum2)] [] m7 28 by
    refine GX_aload_n hC dX2_earn_0 rfl ?_
    refine GX_iload_n hC dX2_earn_1 rfl ?_
    obtain ⟨b9, e10, h11⟩ := ob e5
    refine GX_callV_i (st := []) hC (C_Land_isPerson ht e10) okX2_isPerson lkX2_50 (olLand ht) rfl rfl (Nat.le_of_ble_eq_true rfl) (Nat.le_of_ble_eq_true rfl) hk rfl (Nat.le_of_ble_eq_true rfl) dX2_earn_2 ?_
    refine GX_ifb_eq hC 28 dX2_earn_5 (by decide) (fun q => ?_) (fun q => ?_)
    · skip
      have h12 := ifT q h11
      refine GX_aload_n hC dX2_earn_8 rfl ?_
      refine GX_getR hC fkX2_35 (olLand ht) rfl dX2_earn_9 ?_
      refine GX_iload_n hC dX2_earn_12 rfl ?_
      refine GX_sipush hC 999 dX2_earn_13 rfl ?_
      refine GX_aload_n hC dX2_earn_16 rfl ?_
      refine GX_getR hC fkX2_35 (olLand ht) rfl dX2_earn_17 ?_
      refine GX_iload_n hC dX2_earn_20 rfl ?_
      obtain ⟨x13, e14, h15⟩ := ob h12
      refine GX_ldA hC e14 (alLand4 ht) dX2_earn_21 ?_
      refine GX_iload_n hC dX2_earn_22 rfl ?_
      refine GX_iadd hC dX2_earn_23 ?_
      refine GX_mn hC mtX2_80 (Nat.le_of_ble_eq_true rfl) hk (Nat.le_of_ble_eq_true rfl) dX2_earn_24 ?_
      obtain ⟨m16, e17, h18⟩ := ob h15
      refine GX_stA hC e17 (alLand4 ht) dX2_earn_27 ?_
      exact (hJ8 _ (oi h18))
    · skip
      have h19 := ifF q h11
      exact (hJ8 _ (oi h19))
  intro m7 q20
  subst q20
  exact GX_vretW hC hR dX2_earn_28 (oi h6)
set_option maxRecDepth 100000 in
set_option maxHeartbeats 4000000 in
theorem C_Land_nobodyOwes {l : Launch} {t : Nat} {m1 : MI} {r0 : Bool} (ht : isLand t) (hf : Land_nobodyOwes t m1 = some r0) : Cn l yX2_nobodyOwes cX2_nobodyOwes 2 (some .boolean) 2 LAY (fun ad => .ref (ad t) :: []) m1 (fun _ => some (.int (bI r0))) m1 := by
  refine Cn.of (fun ad => [some (.ref (ad t)), none]) (by decide +kernel) (fun _ => rfl) (fun _ => Nat.le_of_ble_eq_true rfl) (fun Γ hl hC hR hk => ?_)
  subst hl
  replace hC : CX Γ cX2_nobodyOwes RX2 LAY 2 2 := hC
  dsimp only [Land_nobodyOwes] at hf
  refine GX_iconst hC 0 dX2_nobodyOwes_0 rfl ?_
  refine GX_istore_n hC [some (.ref (gad Γ t)), some (.int 0)] dX2_nobodyOwes_1 (by decide) rfl rfl ?_
  obtain ⟨o2, e3, h4⟩ := ob hf
  have hR5 : ∀ res : Bool, Sum.inr res = o2 → res = r0 := by
    intro res q
    subst q
    have h4 := seR h4
    exact (oi h4)
  suffices hJ5 : Sum.inl () = o2 → GX Γ LAY 0 0 [some (.ref (gad Γ t)), none] [] m1 26 by
    refine lp_walk (P := fun s => GX Γ LAY 0 0 [some (.ref (gad Γ t)), some (.int s)] [] m1 2) (fun p6 x hx5 hI5 hO5 => ?_) _ _ e3
    show GX Γ LAY 0 0 [some (.ref (gad Γ t)), some (.int p6)] [] m1 2
    dsimp only [Land_nobodyOwes_s1] at hx5
    refine GX_iload_n hC dX2_nobodyOwes_2 rfl ?_
    refine GX_aload_n hC dX2_nobodyOwes_3 rfl ?_
    refine GX_getI hC fkX2_15 (olLand ht) rfl dX2_nobodyOwes_4 ?_
    refine GX_icmp_ge_N hC 26 dX2_nobodyOwes_7 (by decide) (fun q => ?_) (fun q => ?_)
    · skip
      have h7 := ifP q hx5
      refine GX_aload_n hC dX2_nobodyOwes_10 rfl ?_
      refine GX_iload_n hC dX2_nobodyOwes_11 rfl ?_
      obtain ⟨r8, e9, h10⟩ := ob h7
      refine GX_callV_i (st := []) hC (C_Land_coinsOf ht e9) okX2_coinsOf lkX2_85 (olLand ht) rfl rfl (Nat.le_of_ble_eq_true rfl) (Nat.le_of_ble_eq_true rfl) hk rfl (Nat.le_of_ble_eq_true rfl) dX2_nobodyOwes_12 ?_
      refine GX_if_ge_N hC 20 dX2_nobodyOwes_15 (by decide) (fun q => ?_) (fun q => ?_)
      · skip
        have h11 := ifP q h10
        refine GX_iconst hC (bI false) dX2_nobodyOwes_18 rfl ?_
        exact GX_zretR hC false hR dX2_nobodyOwes_19 (hR5 _ (hO5 _ (oi h11).symm))
      · skip
        have h12 := ifN q h10
        obtain ⟨i13, e14, h15⟩ := ob h12
        refine GX_iinc hC i13 [some (.ref (gad Γ t)), some (.int i13)] dX2_nobodyOwes_20 rfl (oi e14) (by decide) rfl rfl ?_
        refine GX_goto hC 2 dX2_nobodyOwes_23 (by decide) ?_
        exact hI5 _ (oi h15).symm
    · skip
      have h16 := ifN q hx5
      exact GX.le (hJ5 (hO5 _ (oi h16).symm)) ⟨rfl, trivial⟩
  intro q17
  subst q17
  have h4 := seL h4
  refine GX_iconst hC (bI true) dX2_nobodyOwes_26 rfl ?_
  exact GX_zretR hC true hR dX2_nobodyOwes_27 (oi h4)
set_option maxRecDepth 100000 in
set_option maxHeartbeats 4000000 in
theorem C_Land_barWithin {l : Launch} {t : Nat} {bits1 : Int32} {m2 : MI} {r0 : Bool} (ht : isLand t) (hf : Land_barWithin t bits1 m2 = some r0) : Cn l yX2_barWithin cX2_barWithin 3 (some .boolean) 3 LAY (fun ad => .ref (ad t) :: [.int bits1]) m2 (fun _ => some (.int (bI r0))) m2 := by
  refine Cn.of (fun ad => [some (.ref (ad t)), some (.int bits1), none]) (by decide +kernel) (fun _ => rfl) (fun _ => Nat.le_of_ble_eq_true rfl) (fun Γ hl hC hR hk => ?_)
  subst hl
  replace hC : CX Γ cX2_barWithin RX2 LAY 3 3 := hC
  dsimp only [Land_barWithin] at hf
  refine GX_iconst hC 0 dX2_barWithin_0 rfl ?_
  refine GX_istore_n hC [some (.ref (gad Γ t)), some (.int bits1), some (.int 0)] dX2_barWithin_1 (by decide) rfl rfl ?_
  obtain ⟨o3, e4, h5⟩ := ob hf
  have hR6 : ∀ res : Bool, Sum.inr res = o3 → res = r0 := by
    intro res q
    subst q
    have h5 := seR h5
    exact (oi h5)
  suffices hJ6 : Sum.inl () = o3 → GX Γ LAY 0 0 [some (.ref (gad Γ t)), some (.int bits1), none] [] m2 37 by
    refine lp_walk (P := fun s => GX Γ LAY 0 0 [some (.ref (gad Γ t)), some (.int bits1), some (.int s)] [] m2 2) (fun f7 x hx6 hI6 hO6 => ?_) _ _ e4
    show GX Γ LAY 0 0 [some (.ref (gad Γ t)), some (.int bits1), some (.int f7)] [] m2 2
    dsimp only [Land_barWithin_s1] at hx6
    refine GX_iload_n hC dX2_barWithin_2 rfl ?_
    refine GX_aload_n hC dX2_barWithin_3 rfl ?_
    refine GX_getI hC fkX2_9 (olLand ht) rfl dX2_barWithin_4 ?_
    refine GX_icmp_ge_N hC 37 dX2_barWithin_7 (by decide) (fun q => ?_) (fun q => ?_)
    · skip
      have h8 := ifP q hx6
      obtain ⟨c9, e10, h11⟩ := ob h8
      have hc12 : true = c9 → GX Γ LAY 0 0 [some (.ref (gad Γ t)), some (.int bits1), some (.int f7)] [] m2 29 := by
        intro q
        have h13 := ifT q.symm h11
        refine GX_iconst hC (bI true) dX2_barWithin_29 rfl ?_
        exact GX_zretR hC true hR dX2_barWithin_30 (hR6 _ (hO6 _ (oi h13).symm))
      have hc14 : false = c9 → GX Γ LAY 0 0 [some (.ref (gad Γ t)), some (.int bits1), some (.int f7)] [] m2 31 := by
        intro q
        have h15 := ifF q.symm h11
        obtain ⟨i16, e17, h18⟩ := ob h15
        refine GX_iinc hC i16 [some (.ref (gad Γ t)), some (.int bits1), some (.int i16)] dX2_barWithin_31 rfl (oi e17) (by decide) rfl rfl ?_
        refine GX_goto hC 2 dX2_barWithin_34 (by decide) ?_
        exact hI6 _ (oi h18).symm
      refine GX_iload_n hC dX2_barWithin_10 rfl ?_
      refine GX_iload_n hC dX2_barWithin_11 rfl ?_
      refine GX_ishr hC dX2_barWithin_12 ?_
      refine GX_iconst hC 1 dX2_barWithin_13 rfl ?_
      refine GX_iand hC dX2_barWithin_14 ?_
      refine GX_iconst hC 1 dX2_barWithin_15 rfl ?_
      refine GX_icmp_ne_N hC 31 dX2_barWithin_16 (by decide) (fun q => ?_) (fun q => ?_)
      · skip
        have h19 := ifP q e10
        refine GX_aload_n hC dX2_barWithin_19 rfl ?_
        refine GX_iload_n hC dX2_barWithin_20 rfl ?_
        obtain ⟨r20, e21, h22⟩ := ob h19
        refine GX_callV_i (st := []) hC (C_Land_barBits ht e21) okX2_barBits lkX2_91 (olLand ht) rfl rfl (Nat.le_of_ble_eq_true rfl) (Nat.le_of_ble_eq_true rfl) hk rfl (Nat.le_of_ble_eq_true rfl) dX2_barWithin_21 ?_
        refine GX_iload_n hC dX2_barWithin_24 rfl ?_
        refine GX_iand hC dX2_barWithin_25 ?_
        refine GX_if_eq_N hC 31 dX2_barWithin_26 (by decide) (fun q => ?_) (fun q => ?_)
        · skip
          exact hc12 (cdT q h22)
        · skip
          exact hc14 (cdF q h22)
      · skip
        have h23 := ifN q e10
        exact hc14 (oi h23)
    · skip
      have h24 := ifN q hx6
      exact GX.le (hJ6 (hO6 _ (oi h24).symm)) ⟨rfl, ⟨rfl, trivial⟩⟩
  intro q25
  subst q25
  have h5 := seL h5
  refine GX_iconst hC (bI false) dX2_barWithin_37 rfl ?_
  exact GX_zretR hC false hR dX2_barWithin_38 (oi h5)
set_option maxRecDepth 100000 in
set_option maxHeartbeats 4000000 in
theorem C_Land_greatestWorth {l : Launch} {t : Nat} {f1 : Int32} {m2 : MI} {r0 : Int32} (ht : isLand t) (hf : Land_greatestWorth t f1 m2 = some r0) : Cn l yX2_greatestWorth cX2_greatestWorth 4 (some .int) 2 LAY (fun ad => .ref (ad t) :: [.int f1]) m2 (fun _ => some (.int r0)) m2 := by
  refine Cn.of (fun ad => [some (.ref (ad t)), some (.int f1), none, none]) (by decide +kernel) (fun _ => rfl) (fun _ => Nat.le_of_ble_eq_true rfl) (fun Γ hl hC hR hk => ?_)
  subst hl
  replace hC : CX Γ cX2_greatestWorth RX2 LAY 2 4 := hC
  dsimp only [Land_greatestWorth] at hf
  refine GX_iconst hC 0 dX2_greatestWorth_0 rfl ?_
  refine GX_istore_n hC [some (.ref (gad Γ t)), some (.int f1), some (.int 0), none] dX2_greatestWorth_1 (by decide) rfl rfl ?_
  refine GX_iconst hC 0 dX2_greatestWorth_2 rfl ?_
  refine GX_istore_n hC [some (.ref (gad Γ t)), some (.int f1), some (.int 0), some (.int 0)] dX2_greatestWorth_3 (by decide) rfl rfl ?_
  obtain ⟨o3, e4, h5⟩ := ob hf
  suffices hJ6 : ∀ (worth9 : Int32), worth9 = o3 → GX Γ LAY 0 0 [some (.ref (gad Γ t)), some (.int f1), some (.int worth9), none] [] m2 29 by
    refine lp_walk (P := fun s => GX Γ LAY 0 0 [some (.ref (gad Γ t)), some (.int f1), some (.int s.1), some (.int s.2)] [] m2 4) (fun s x hx6 hI6 hO6 => ?_) _ _ e4
    obtain ⟨worth7, p8⟩ := s
    show GX Γ LAY 0 0 [some (.ref (gad Γ t)), some (.int f1), some (.int worth7), some (.int p8)] [] m2 4
    dsimp only [Land_greatestWorth_s1] at hx6
    refine GX_iload_n hC dX2_greatestWorth_4 rfl ?_
    refine GX_aload_n hC dX2_greatestWorth_5 rfl ?_
    refine GX_getI hC fkX2_15 (olLand ht) rfl dX2_greatestWorth_6 ?_
    refine GX_icmp_ge_N hC 29 dX2_greatestWorth_9 (by decide) (fun q => ?_) (fun q => ?_)
    · skip
      have h10 := ifP q hx6
      refine GX_iload_n hC dX2_greatestWorth_12 rfl ?_
      refine GX_aload_n hC dX2_greatestWorth_13 rfl ?_
      refine GX_iload_n hC dX2_greatestWorth_14 rfl ?_
      refine GX_iload_n hC dX2_greatestWorth_15 rfl ?_
      obtain ⟨r11, e12, h13⟩ := ob h10
      refine GX_callV_i (st := [.int worth7]) hC (C_Land_worthTo ht e12) okX2_worthTo lkX2_103 (olLand ht) rfl rfl (Nat.le_of_ble_eq_true rfl) (Nat.le_of_ble_eq_true rfl) hk rfl (Nat.le_of_ble_eq_true rfl) dX2_greatestWorth_16 ?_
      refine GX_mx hC mtX2_112 (Nat.le_of_ble_eq_true rfl) hk (Nat.le_of_ble_eq_true rfl) dX2_greatestWorth_19 ?_
      obtain ⟨worth14, e15, h16⟩ := ob h13
      refine GX_nm (oi e15) ?_
      refine GX_istore_n hC [some (.ref (gad Γ t)), some (.int f1), some (.int worth14), some (.int p8)] dX2_greatestWorth_22 (by decide) rfl rfl ?_
      obtain ⟨i17, e18, h19⟩ := ob h16
      refine GX_iinc hC i17 [some (.ref (gad Γ t)), some (.int f1), some (.int worth14), some (.int i17)] dX2_greatestWorth_23 rfl (oi e18) (by decide) rfl rfl ?_
      refine GX_goto hC 4 dX2_greatestWorth_26 (by decide) ?_
      exact hI6 _ (oi h19).symm
    · skip
      have h20 := ifN q hx6
      exact GX.le (hJ6 _ (hO6 _ (oi h20).symm)) ⟨rfl, ⟨rfl, ⟨rfl, trivial⟩⟩⟩
  intro worth9 q21
  subst q21
  refine GX_iload_n hC dX2_greatestWorth_29 rfl ?_
  exact GX_iretR hC hR dX2_greatestWorth_30 (oi h5)
set_option maxRecDepth 100000 in
set_option maxHeartbeats 4000000 in
theorem C_Land_writeBars {l : Launch} {t : Nat} {bars1 : Nat} {m2 : MI} {mr : MI} (ht : isLand t) (ha_bars1 : LAY[bars1]? = some (.inr (0, 6, []))) (hf : Land_writeBars t bars1 m2 = some mr) : Cn l yX2_writeBars cX2_writeBars 3 none 3 LAY (fun ad => .ref (ad t) :: [.ref (ad bars1)]) m2 (fun _ => none) mr := by
  refine Cn.of (fun ad => [some (.ref (ad t)), some (.ref (ad bars1)), none]) (by decide +kernel) (fun _ => rfl) (fun _ => Nat.le_of_ble_eq_true rfl) (fun Γ hl hC hR hk => ?_)
  subst hl
  replace hC : CX Γ cX2_writeBars RX2 LAY 3 3 := hC
  dsimp only [Land_writeBars] at hf
  refine GX_iconst hC 0 dX2_writeBars_0 rfl ?_
  refine GX_istore_n hC [some (.ref (gad Γ t)), some (.ref (gad Γ bars1)), some (.int 0)] dX2_writeBars_1 (by decide) rfl rfl ?_
  obtain ⟨o3, e4, h5⟩ := ob hf
  suffices hJ6 : ∀ (m9 : MI), m9 = o3 → GX Γ LAY 0 0 [some (.ref (gad Γ t)), some (.ref (gad Γ bars1)), none] [] m9 22 by
    refine lp_walk (P := fun s => GX Γ LAY 0 0 [some (.ref (gad Γ t)), some (.ref (gad Γ bars1)), some (.int s.1)] [] s.2 2) (fun s x hx6 hI6 hO6 => ?_) _ _ e4
    obtain ⟨f7, m8⟩ := s
    show GX Γ LAY 0 0 [some (.ref (gad Γ t)), some (.ref (gad Γ bars1)), some (.int f7)] [] m8 2
    dsimp only [Land_writeBars_s1] at hx6
    refine GX_iload_n hC dX2_writeBars_2 rfl ?_
    refine GX_aload_n hC dX2_writeBars_3 rfl ?_
    refine GX_alen hC 6 ha_bars1 (by decide) rfl dX2_writeBars_4 ?_
    refine GX_icmp_ge_N hC 22 dX2_writeBars_5 (by decide) (fun q => ?_) (fun q => ?_)
    · skip
      have h10 := ifP q hx6
      refine GX_aload_n hC dX2_writeBars_8 rfl ?_
      refine GX_iload_n hC dX2_writeBars_9 rfl ?_
      refine GX_aload_n hC dX2_writeBars_10 rfl ?_
      refine GX_iload_n hC dX2_writeBars_11 rfl ?_
      obtain ⟨r11, e12, h13⟩ := ob h10
      refine GX_callV_i (st := [.int f7, .ref (gad Γ bars1)]) hC (C_Land_barBits ht e12) okX2_barBits lkX2_91 (olLand ht) rfl rfl (Nat.le_of_ble_eq_true rfl) (Nat.le_of_ble_eq_true rfl) hk rfl (Nat.le_of_ble_eq_true rfl) dX2_writeBars_12 ?_
      obtain ⟨m14, e15, h16⟩ := ob h13
      refine GX_stA hC e15 ha_bars1 dX2_writeBars_15 ?_
      obtain ⟨i17, e18, h19⟩ := ob h16
      refine GX_iinc hC i17 [some (.ref (gad Γ t)), some (.ref (gad Γ bars1)), some (.int i17)] dX2_writeBars_16 rfl (oi e18) (by decide) rfl rfl ?_
      refine GX_goto hC 2 dX2_writeBars_19 (by decide) ?_
      exact hI6 _ (oi h19).symm
    · skip
      have h20 := ifN q hx6
      exact GX.le (hJ6 _ (hO6 _ (oi h20).symm)) ⟨rfl, ⟨rfl, trivial⟩⟩
  intro m9 q21
  subst q21
  exact GX_vretW hC hR dX2_writeBars_22 (oi h5)
set_option maxRecDepth 100000 in
set_option maxHeartbeats 4000000 in
theorem C_Land_worthToOwners {l : Launch} {t : Nat} {bits1 : Int32} {m2 : MI} {r0 : Int32} (ht : isLand t) (hf : Land_worthToOwners t bits1 m2 = some r0) : Cn l yX2_worthToOwners cX2_worthToOwners 4 (some .int) 2 LAY (fun ad => .ref (ad t) :: [.int bits1]) m2 (fun _ => some (.int r0)) m2 := by
  refine Cn.of (fun ad => [some (.ref (ad t)), some (.int bits1), none, none]) (by decide +kernel) (fun _ => rfl) (fun _ => Nat.le_of_ble_eq_true rfl) (fun Γ hl hC hR hk => ?_)
  subst hl
  replace hC : CX Γ cX2_worthToOwners RX2 LAY 2 4 := hC
  dsimp only [Land_worthToOwners] at hf
  refine GX_iconst hC 0 dX2_worthToOwners_0 rfl ?_
  refine GX_istore_n hC [some (.ref (gad Γ t)), some (.int bits1), some (.int 0), none] dX2_worthToOwners_1 (by decide) rfl rfl ?_
  refine GX_iconst hC 0 dX2_worthToOwners_2 rfl ?_
  refine GX_istore_n hC [some (.ref (gad Γ t)), some (.int bits1), some (.int 0), some (.int 0)] dX2_worthToOwners_3 (by decide) rfl rfl ?_
  obtain ⟨o3, e4, h5⟩ := ob hf
  suffices hJ6 : ∀ (worth9 : Int32), worth9 = o3 → GX Γ LAY 0 0 [some (.ref (gad Γ t)), some (.int bits1), some (.int worth9), none] [] m2 44 by
    refine lp_walk (P := fun s => GX Γ LAY 0 0 [some (.ref (gad Γ t)), some (.int bits1), some (.int s.1), some (.int s.2)] [] m2 4) (fun s x hx6 hI6 hO6 => ?_) _ _ e4
    obtain ⟨worth7, f8⟩ := s
    show GX Γ LAY 0 0 [some (.ref (gad Γ t)), some (.int bits1), some (.int worth7), some (.int f8)] [] m2 4
    dsimp only [Land_worthToOwners_s1] at hx6
    refine GX_iload_n hC dX2_worthToOwners_4 rfl ?_
    refine GX_aload_n hC dX2_worthToOwners_5 rfl ?_
    refine GX_getI hC fkX2_9 (olLand ht) rfl dX2_worthToOwners_6 ?_
    refine GX_icmp_ge_N hC 44 dX2_worthToOwners_9 (by decide) (fun q => ?_) (fun q => ?_)
    · skip
      have h10 := ifP q hx6
      refine GX_iload_n hC dX2_worthToOwners_12 rfl ?_
      obtain ⟨x11, e12, h13⟩ := ob h10
      suffices hJ14 : GX Γ LAY 0 0 [some (.ref (gad Γ t)), some (.int bits1), some (.int worth7), some (.int f8)] [.int x11, .int worth7] m2 36 by
        refine GX_iload_n hC dX2_worthToOwners_13 rfl ?_
        refine GX_iload_n hC dX2_worthToOwners_14 rfl ?_
        refine GX_ishr hC dX2_worthToOwners_15 ?_
        refine GX_iconst hC 1 dX2_worthToOwners_16 rfl ?_
        refine GX_iand hC dX2_worthToOwners_17 ?_
        refine GX_iconst hC 1 dX2_worthToOwners_18 rfl ?_
        refine GX_icmp_ne_N hC 35 dX2_worthToOwners_19 (by decide) (fun q => ?_) (fun q => ?_)
        · skip
          have h15 := ifP q e12
          refine GX_aload_n hC dX2_worthToOwners_22 rfl ?_
          refine GX_aload_n hC dX2_worthToOwners_23 rfl ?_
          refine GX_iload_n hC dX2_worthToOwners_24 rfl ?_
          obtain ⟨r16, e17, h18⟩ := ob h15
          refine GX_callV_i (st := [.ref (gad Γ t), .int worth7]) hC (C_Land_ownerOf ht e17) okX2_ownerOf lkX2_97 (olLand ht) rfl rfl (Nat.le_of_ble_eq_true rfl) (Nat.le_of_ble_eq_true rfl) hk rfl (Nat.le_of_ble_eq_true rfl) dX2_worthToOwners_25 ?_
          refine GX_iload_n hC dX2_worthToOwners_28 rfl ?_
          obtain ⟨r19, e20, h21⟩ := ob h18
          refine GX_callV_i (st := [.int worth7]) hC (C_Land_worthTo ht e20) okX2_worthTo lkX2_103 (olLand ht) rfl rfl (Nat.le_of_ble_eq_true rfl) (Nat.le_of_ble_eq_true rfl) hk rfl (Nat.le_of_ble_eq_true rfl) dX2_worthToOwners_29 ?_
          refine GX_goto hC 36 dX2_worthToOwners_32 (by decide) ?_
          exact GX_nm (oi h21) hJ14
        · skip
          have h22 := ifN q e12
          refine GX_iconst hC 0 dX2_worthToOwners_35 rfl ?_
          exact GX_nm (oi h22) hJ14
      refine GX_iadd hC dX2_worthToOwners_36 ?_
      obtain ⟨worth23, e24, h25⟩ := ob h13
      refine GX_nm (oi e24) ?_
      refine GX_istore_n hC [some (.ref (gad Γ t)), some (.int bits1), some (.int worth23), some (.int f8)] dX2_worthToOwners_37 (by decide) rfl rfl ?_
      obtain ⟨i26, e27, h28⟩ := ob h25
      refine GX_iinc hC i26 [some (.ref (gad Γ t)), some (.int bits1), some (.int worth23), some (.int i26)] dX2_worthToOwners_38 rfl (oi e27) (by decide) rfl rfl ?_
      refine GX_goto hC 4 dX2_worthToOwners_41 (by decide) ?_
      exact hI6 _ (oi h28).symm
    · skip
      have h29 := ifN q hx6
      exact GX.le (hJ6 _ (hO6 _ (oi h29).symm)) ⟨rfl, ⟨rfl, ⟨rfl, trivial⟩⟩⟩
  intro worth9 q30
  subst q30
  refine GX_iload_n hC dX2_worthToOwners_44 rfl ?_
  exact GX_iretR hC hR dX2_worthToOwners_45 (oi h5)
set_option maxRecDepth 100000 in
set_option maxHeartbeats 4000000 in
theorem C_Land_ownedCount {l : Launch} {t : Nat} {m1 : MI} {r0 : Int32} (ht : isLand t) (hf : Land_ownedCount t m1 = some r0) : Cn l yX2_ownedCount cX2_ownedCount 3 (some .int) 2 LAY (fun ad => .ref (ad t) :: []) m1 (fun _ => some (.int r0)) m1 := by
  refine Cn.of (fun ad => [some (.ref (ad t)), none, none]) (by decide +kernel) (fun _ => rfl) (fun _ => Nat.le_of_ble_eq_true rfl) (fun Γ hl hC hR hk => ?_)
  subst hl
  replace hC : CX Γ cX2_ownedCount RX2 LAY 2 3 := hC
  dsimp only [Land_ownedCount] at hf
  refine GX_iconst hC 0 dX2_ownedCount_0 rfl ?_
  refine GX_istore_n hC [some (.ref (gad Γ t)), some (.int 0), none] dX2_ownedCount_1 (by decide) rfl rfl ?_
  refine GX_iconst hC 0 dX2_ownedCount_2 rfl ?_
  refine GX_istore_n hC [some (.ref (gad Γ t)), some (.int 0), some (.int 0)] dX2_ownedCount_3 (by decide) rfl rfl ?_
  obtain ⟨o2, e3, h4⟩ := ob hf
  suffices hJ5 : ∀ (owned8 : Int32), owned8 = o2 → GX Γ LAY 0 0 [some (.ref (gad Γ t)), some (.int owned8), none] [] m1 36 by
    refine lp_walk (P := fun s => GX Γ LAY 0 0 [some (.ref (gad Γ t)), some (.int s.1), some (.int s.2)] [] m1 4) (fun s x hx5 hI5 hO5 => ?_) _ _ e3
    obtain ⟨owned6, f7⟩ := s
    show GX Γ LAY 0 0 [some (.ref (gad Γ t)), some (.int owned6), some (.int f7)] [] m1 4
    dsimp only [Land_ownedCount_s1] at hx5
    refine GX_iload_n hC dX2_ownedCount_4 rfl ?_
    refine GX_aload_n hC dX2_ownedCount_5 rfl ?_
    refine GX_getI hC fkX2_9 (olLand ht) rfl dX2_ownedCount_6 ?_
    refine GX_icmp_ge_N hC 36 dX2_ownedCount_9 (by decide) (fun q => ?_) (fun q => ?_)
    · skip
      have h9 := ifP q hx5
      refine GX_iload_n hC dX2_ownedCount_12 rfl ?_
      obtain ⟨x10, e11, h12⟩ := ob h9
      suffices hJ13 : GX Γ LAY 0 0 [some (.ref (gad Γ t)), some (.int owned6), some (.int f7)] [.int x10, .int owned6] m1 28 by
        refine GX_aload_n hC dX2_ownedCount_13 rfl ?_
        refine GX_iload_n hC dX2_ownedCount_14 rfl ?_
        obtain ⟨r14, e15, h16⟩ := ob e11
        refine GX_callV_i (st := [.int owned6]) hC (C_Land_ownerOf ht e15) okX2_ownerOf lkX2_97 (olLand ht) rfl rfl (Nat.le_of_ble_eq_true rfl) (Nat.le_of_ble_eq_true rfl) hk rfl (Nat.le_of_ble_eq_true rfl) dX2_ownedCount_15 ?_
        refine GX_bipush hC 9 dX2_ownedCount_18 rfl ?_
        refine GX_icmp_ne_N hC 27 dX2_ownedCount_20 (by decide) (fun q => ?_) (fun q => ?_)
        · skip
          have h17 := ifP q h16
          refine GX_iconst hC 0 dX2_ownedCount_23 rfl ?_
          refine GX_goto hC 28 dX2_ownedCount_24 (by decide) ?_
          exact GX_nm (oi h17) hJ13
        · skip
          have h18 := ifN q h16
          refine GX_iconst hC 1 dX2_ownedCount_27 rfl ?_
          exact GX_nm (oi h18) hJ13
      refine GX_iadd hC dX2_ownedCount_28 ?_
      obtain ⟨owned19, e20, h21⟩ := ob h12
      refine GX_nm (oi e20) ?_
      refine GX_istore_n hC [some (.ref (gad Γ t)), some (.int owned19), some (.int f7)] dX2_ownedCount_29 (by decide) rfl rfl ?_
      obtain ⟨i22, e23, h24⟩ := ob h21
      refine GX_iinc hC i22 [some (.ref (gad Γ t)), some (.int owned19), some (.int i22)] dX2_ownedCount_30 rfl (oi e23) (by decide) rfl rfl ?_
      refine GX_goto hC 4 dX2_ownedCount_33 (by decide) ?_
      exact hI5 _ (oi h24).symm
    · skip
      have h25 := ifN q hx5
      exact GX.le (hJ5 _ (hO5 _ (oi h25).symm)) ⟨rfl, ⟨rfl, trivial⟩⟩
  intro owned8 q26
  subst q26
  refine GX_iload_n hC dX2_ownedCount_36 rfl ?_
  exact GX_iretR hC hR dX2_ownedCount_37 (oi h4)
set_option maxRecDepth 100000 in
set_option maxHeartbeats 4000000 in
theorem C_Land_allAcres {l : Launch} {t : Nat} {m1 : MI} {r0 : Int32} (ht : isLand t) (hf : Land_allAcres t m1 = some r0) : Cn l yX2_allAcres cX2_allAcres 3 (some .int) 2 LAY (fun ad => .ref (ad t) :: []) m1 (fun _ => some (.int r0)) m1 := by
  refine Cn.of (fun ad => [some (.ref (ad t)), none, none]) (by decide +kernel) (fun _ => rfl) (fun _ => Nat.le_of_ble_eq_true rfl) (fun Γ hl hC hR hk => ?_)
  subst hl
  replace hC : CX Γ cX2_allAcres RX2 LAY 2 3 := hC
  dsimp only [Land_allAcres] at hf
  refine GX_iconst hC 0 dX2_allAcres_0 rfl ?_
  refine GX_istore_n hC [some (.ref (gad Γ t)), some (.int 0), none] dX2_allAcres_1 (by decide) rfl rfl ?_
  refine GX_iconst hC 0 dX2_allAcres_2 rfl ?_
  refine GX_istore_n hC [some (.ref (gad Γ t)), some (.int 0), some (.int 0)] dX2_allAcres_3 (by decide) rfl rfl ?_
  obtain ⟨o2, e3, h4⟩ := ob hf
  suffices hJ5 : ∀ (sum8 : Int32), sum8 = o2 → GX Γ LAY 0 0 [some (.ref (gad Γ t)), some (.int sum8), none] [] m1 26 by
    refine lp_walk (P := fun s => GX Γ LAY 0 0 [some (.ref (gad Γ t)), some (.int s.1), some (.int s.2)] [] m1 4) (fun s x hx5 hI5 hO5 => ?_) _ _ e3
    obtain ⟨sum6, f7⟩ := s
    show GX Γ LAY 0 0 [some (.ref (gad Γ t)), some (.int sum6), some (.int f7)] [] m1 4
    dsimp only [Land_allAcres_s1] at hx5
    refine GX_iload_n hC dX2_allAcres_4 rfl ?_
    refine GX_aload_n hC dX2_allAcres_5 rfl ?_
    refine GX_getI hC fkX2_9 (olLand ht) rfl dX2_allAcres_6 ?_
    refine GX_icmp_ge_N hC 26 dX2_allAcres_9 (by decide) (fun q => ?_) (fun q => ?_)
    · skip
      have h9 := ifP q hx5
      refine GX_iload_n hC dX2_allAcres_12 rfl ?_
      refine GX_aload_n hC dX2_allAcres_13 rfl ?_
      refine GX_iload_n hC dX2_allAcres_14 rfl ?_
      obtain ⟨r10, e11, h12⟩ := ob h9
      refine GX_callV_i (st := [.int sum6]) hC (C_Land_acresOf ht e11) okX2_acresOf lkX2_64 (olLand ht) rfl rfl (Nat.le_of_ble_eq_true rfl) (Nat.le_of_ble_eq_true rfl) hk rfl (Nat.le_of_ble_eq_true rfl) dX2_allAcres_15 ?_
      refine GX_iadd hC dX2_allAcres_18 ?_
      obtain ⟨sum13, e14, h15⟩ := ob h12
      refine GX_nm (oi e14) ?_
      refine GX_istore_n hC [some (.ref (gad Γ t)), some (.int sum13), some (.int f7)] dX2_allAcres_19 (by decide) rfl rfl ?_
      obtain ⟨i16, e17, h18⟩ := ob h15
      refine GX_iinc hC i16 [some (.ref (gad Γ t)), some (.int sum13), some (.int i16)] dX2_allAcres_20 rfl (oi e17) (by decide) rfl rfl ?_
      refine GX_goto hC 4 dX2_allAcres_23 (by decide) ?_
      exact hI5 _ (oi h18).symm
    · skip
      have h19 := ifN q hx5
      exact GX.le (hJ5 _ (hO5 _ (oi h19).symm)) ⟨rfl, ⟨rfl, trivial⟩⟩
  intro sum8 q20
  subst q20
  refine GX_iload_n hC dX2_allAcres_26 rfl ?_
  exact GX_iretR hC hR dX2_allAcres_27 (oi h4)
set_option maxRecDepth 100000 in
set_option maxHeartbeats 4000000 in
theorem C_Land_allCoins {l : Launch} {t : Nat} {m1 : MI} {r0 : Int32} (ht : isLand t) (hf : Land_allCoins t m1 = some r0) : Cn l yX2_allCoins cX2_allCoins 3 (some .int) 2 LAY (fun ad => .ref (ad t) :: []) m1 (fun _ => some (.int r0)) m1 := by
  refine Cn.of (fun ad => [some (.ref (ad t)), none, none]) (by decide +kernel) (fun _ => rfl) (fun _ => Nat.le_of_ble_eq_true rfl) (fun Γ hl hC hR hk => ?_)
  subst hl
  replace hC : CX Γ cX2_allCoins RX2 LAY 2 3 := hC
  dsimp only [Land_allCoins] at hf
  refine GX_iconst hC 0 dX2_allCoins_0 rfl ?_
  refine GX_istore_n hC [some (.ref (gad Γ t)), some (.int 0), none] dX2_allCoins_1 (by decide) rfl rfl ?_
  refine GX_iconst hC 0 dX2_allCoins_2 rfl ?_
  refine GX_istore_n hC [some (.ref (gad Γ t)), some (.int 0), some (.int 0)] dX2_allCoins_3 (by decide) rfl rfl ?_
  obtain ⟨o2, e3, h4⟩ := ob hf
  suffices hJ5 : ∀ (sum8 : Int32), sum8 = o2 → GX Γ LAY 0 0 [some (.ref (gad Γ t)), some (.int sum8), none] [] m1 26 by
    refine lp_walk (P := fun s => GX Γ LAY 0 0 [some (.ref (gad Γ t)), some (.int s.1), some (.int s.2)] [] m1 4) (fun s x hx5 hI5 hO5 => ?_) _ _ e3
    obtain ⟨sum6, p7⟩ := s
    show GX Γ LAY 0 0 [some (.ref (gad Γ t)), some (.int sum6), some (.int p7)] [] m1 4
    dsimp only [Land_allCoins_s1] at hx5
    refine GX_iload_n hC dX2_allCoins_4 rfl ?_
    refine GX_aload_n hC dX2_allCoins_5 rfl ?_
    refine GX_getI hC fkX2_15 (olLand ht) rfl dX2_allCoins_6 ?_
    refine GX_icmp_ge_N hC 26 dX2_allCoins_9 (by decide) (fun q => ?_) (fun q => ?_)
    · skip
      have h9 := ifP q hx5
      refine GX_iload_n hC dX2_allCoins_12 rfl ?_
      refine GX_aload_n hC dX2_allCoins_13 rfl ?_
      refine GX_iload_n hC dX2_allCoins_14 rfl ?_
      obtain ⟨r10, e11, h12⟩ := ob h9
      refine GX_callV_i (st := [.int sum6]) hC (C_Land_coinsOf ht e11) okX2_coinsOf lkX2_85 (olLand ht) rfl rfl (Nat.le_of_ble_eq_true rfl) (Nat.le_of_ble_eq_true rfl) hk rfl (Nat.le_of_ble_eq_true rfl) dX2_allCoins_15 ?_
      refine GX_iadd hC dX2_allCoins_18 ?_
      obtain ⟨sum13, e14, h15⟩ := ob h12
      refine GX_nm (oi e14) ?_
      refine GX_istore_n hC [some (.ref (gad Γ t)), some (.int sum13), some (.int p7)] dX2_allCoins_19 (by decide) rfl rfl ?_
      obtain ⟨i16, e17, h18⟩ := ob h15
      refine GX_iinc hC i16 [some (.ref (gad Γ t)), some (.int sum13), some (.int i16)] dX2_allCoins_20 rfl (oi e17) (by decide) rfl rfl ?_
      refine GX_goto hC 4 dX2_allCoins_23 (by decide) ?_
      exact hI5 _ (oi h18).symm
    · skip
      have h19 := ifN q hx5
      exact GX.le (hJ5 _ (hO5 _ (oi h19).symm)) ⟨rfl, ⟨rfl, trivial⟩⟩
  intro sum8 q20
  subst q20
  refine GX_iload_n hC dX2_allCoins_26 rfl ?_
  exact GX_iretR hC hR dX2_allCoins_27 (oi h4)
set_option maxRecDepth 100000 in
set_option maxHeartbeats 4000000 in
theorem C_Land_touchCount {l : Launch} {t : Nat} {how1 : Int32} {m2 : MI} {r0 : Int32} (ht : isLand t) (hf : Land_touchCount t how1 m2 = some r0) : Cn l yX2_touchCount cX2_touchCount 5 (some .int) 2 LAY (fun ad => .ref (ad t) :: [.int how1]) m2 (fun _ => some (.int r0)) m2 := by
  refine Cn.of (fun ad => [some (.ref (ad t)), some (.int how1), none, none, none]) (by decide +kernel) (fun _ => rfl) (fun _ => Nat.le_of_ble_eq_true rfl) (fun Γ hl hC hR hk => ?_)
  subst hl
  replace hC : CX Γ cX2_touchCount RX2 LAY 2 5 := hC
  dsimp only [Land_touchCount] at hf
  refine GX_iconst hC 0 dX2_touchCount_0 rfl ?_
  refine GX_istore_n hC [some (.ref (gad Γ t)), some (.int how1), some (.int 0), none, none] dX2_touchCount_1 (by decide) rfl rfl ?_
  refine GX_iconst hC 0 dX2_touchCount_2 rfl ?_
  refine GX_istore_n hC [some (.ref (gad Γ t)), some (.int how1), some (.int 0), some (.int 0), none] dX2_touchCount_3 (by decide) rfl rfl ?_
  obtain ⟨o3, e4, h5⟩ := ob hf
  suffices hJ6 : ∀ (touching9 : Int32), touching9 = o3 → GX Γ LAY 0 0 [some (.ref (gad Γ t)), some (.int how1), some (.int touching9), none, none] [] m2 57 by
    refine lp_walk (P := fun s => GX Γ LAY 0 0 [some (.ref (gad Γ t)), some (.int how1), some (.int s.1), some (.int s.2), none] [] m2 4) (fun s x hx6 hI6 hO6 => ?_) _ _ e4
    obtain ⟨touching7, a8⟩ := s
    show GX Γ LAY 0 0 [some (.ref (gad Γ t)), some (.int how1), some (.int touching7), some (.int a8), none] [] m2 4
    dsimp only [Land_touchCount_s1] at hx6
    refine GX_iload_n hC dX2_touchCount_4 rfl ?_
    refine GX_aload_n hC dX2_touchCount_5 rfl ?_
    refine GX_getI hC fkX2_9 (olLand ht) rfl dX2_touchCount_6 ?_
    refine GX_icmp_ge_N hC 57 dX2_touchCount_9 (by decide) (fun q => ?_) (fun q => ?_)
    · skip
      have h10 := ifP q hx6
      refine GX_iload_n hC dX2_touchCount_12 rfl ?_
      refine GX_iconst hC 1 dX2_touchCount_13 rfl ?_
      refine GX_iadd hC dX2_touchCount_14 ?_
      obtain ⟨b11, e12, h13⟩ := ob h10
      refine GX_nm (oi e12) ?_
      refine GX_istore hC [some (.ref (gad Γ t)), some (.int how1), some (.int touching7), some (.int a8), some (.int b11)] dX2_touchCount_15 (by decide) rfl rfl ?_
      obtain ⟨o14, e15, h16⟩ := ob h13
      suffices hJ17 : ∀ (touching20 : Int32), touching20 = o14 → GX Γ LAY 0 0 [some (.ref (gad Γ t)), some (.int how1), some (.int touching20), some (.int a8), none] [] m2 51 by
        refine lp_walk (P := fun s => GX Γ LAY 0 0 [some (.ref (gad Γ t)), some (.int how1), some (.int s.1), some (.int a8), some (.int s.2)] [] m2 17) (fun s x hx17 hI17 hO17 => ?_) _ _ e15
        obtain ⟨touching18, b19⟩ := s
        show GX Γ LAY 0 0 [some (.ref (gad Γ t)), some (.int how1), some (.int touching18), some (.int a8), some (.int b19)] [] m2 17
        dsimp only [Land_touchCount_s2] at hx17
        refine GX_iload hC dX2_touchCount_17 rfl ?_
        refine GX_aload_n hC dX2_touchCount_19 rfl ?_
        refine GX_getI hC fkX2_9 (olLand ht) rfl dX2_touchCount_20 ?_
        refine GX_icmp_ge_N hC 51 dX2_touchCount_23 (by decide) (fun q => ?_) (fun q => ?_)
        · skip
          have h21 := ifP q hx17
          refine GX_iload_n hC dX2_touchCount_26 rfl ?_
          obtain ⟨x22, e23, h24⟩ := ob h21
          suffices hJ25 : GX Γ LAY 0 0 [some (.ref (gad Γ t)), some (.int how1), some (.int touching18), some (.int a8), some (.int b19)] [.int x22, .int touching18] m2 43 by
            refine GX_aload_n hC dX2_touchCount_27 rfl ?_
            refine GX_iload_n hC dX2_touchCount_28 rfl ?_
            refine GX_iload hC dX2_touchCount_29 rfl ?_
            obtain ⟨r26, e27, h28⟩ := ob e23
            refine GX_callV_i (st := [.int touching18]) hC (C_Land_touchOf ht e27) okX2_touchOf lkX2_72 (olLand ht) rfl rfl (Nat.le_of_ble_eq_true rfl) (Nat.le_of_ble_eq_true rfl) hk rfl (Nat.le_of_ble_eq_true rfl) dX2_touchCount_31 ?_
            refine GX_iload_n hC dX2_touchCount_34 rfl ?_
            refine GX_icmp_ne_N hC 42 dX2_touchCount_35 (by decide) (fun q => ?_) (fun q => ?_)
            · skip
              have h29 := ifP q h28
              refine GX_iconst hC 1 dX2_touchCount_38 rfl ?_
              refine GX_goto hC 43 dX2_touchCount_39 (by decide) ?_
              exact GX_nm (oi h29) hJ25
            · skip
              have h30 := ifN q h28
              refine GX_iconst hC 0 dX2_touchCount_42 rfl ?_
              exact GX_nm (oi h30) hJ25
          refine GX_iadd hC dX2_touchCount_43 ?_
          obtain ⟨touching31, e32, h33⟩ := ob h24
          refine GX_nm (oi e32) ?_
          refine GX_istore_n hC [some (.ref (gad Γ t)), some (.int how1), some (.int touching31), some (.int a8), some (.int b19)] dX2_touchCount_44 (by decide) rfl rfl ?_
          obtain ⟨i34, e35, h36⟩ := ob h33
          refine GX_iinc hC i34 [some (.ref (gad Γ t)), some (.int how1), some (.int touching31), some (.int a8), some (.int i34)] dX2_touchCount_45 rfl (oi e35) (by decide) rfl rfl ?_
          refine GX_goto hC 17 dX2_touchCount_48 (by decide) ?_
          exact hI17 _ (oi h36).symm
        · skip
          have h37 := ifN q hx17
          exact GX.le (hJ17 _ (hO17 _ (oi h37).symm)) ⟨rfl, ⟨rfl, ⟨rfl, ⟨rfl, trivial⟩⟩⟩⟩
      intro touching20 q38
      subst q38
      obtain ⟨i39, e40, h41⟩ := ob h16
      refine GX_iinc hC i39 [some (.ref (gad Γ t)), some (.int how1), some (.int touching20), some (.int i39), none] dX2_touchCount_51 rfl (oi e40) (by decide) rfl rfl ?_
      refine GX_goto hC 4 dX2_touchCount_54 (by decide) ?_
      exact hI6 _ (oi h41).symm
    · skip
      have h42 := ifN q hx6
      exact GX.le (hJ6 _ (hO6 _ (oi h42).symm)) ⟨rfl, ⟨rfl, ⟨rfl, trivial⟩⟩⟩
  intro touching9 q43
  subst q43
  refine GX_iload_n hC dX2_touchCount_57 rfl ?_
  exact GX_iretR hC hR dX2_touchCount_58 (oi h5)
