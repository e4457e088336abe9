set_option maxRecDepth 100000 in
set_option maxHeartbeats 4000000 in
theorem C_M_law {l : Launch} {what1 : Int32} {x2 : Int32} {m3 : MI} {r0 : Int32} {mr : MI}  (hf : M_law what1 x2 m3 = some (r0, mr)) : Cn l yX10_law cX10_law 4 (some .int) 1 LAY (fun ad => .ref (ad 62) :: [.int what1, .int x2]) m3 (fun _ => some (.int r0)) mr := by
  refine Cn.of (fun ad => [some (.ref (ad 62)), some (.int what1), some (.int x2), none]) (by decide +kernel) (fun _ => rfl) (fun _ => Nat.le_of_ble_eq_true rfl) (fun Γ hl hC hR hk => ?_)
  subst hl
  replace hC : CX Γ cX10_law RX10 LAY 1 4 := hC
  dsimp only [M_law] at hf
  refine GX_aload_n hC dX10_law_0 rfl ?_
  refine GX_iconst hC 0 dX10_law_1 rfl ?_
  obtain ⟨m4, e5, h6⟩ := ob hf
  refine GX_stF hC e5 fkX10_99 ftX10_10 ol_62 rfl dX10_law_2 ?_
  obtain ⟨c7, e8, h9⟩ := ob h6
  have hc10 : true = c7 → GX Γ LAY 0 0 [some (.ref (gad Γ 62)), some (.int what1), some (.int x2), none] [] m4 25 := by
    intro q
    have h11 := ifT q.symm h9
    refine GX_iconst hC (-1) dX10_law_25 rfl ?_
    exact GX_iretW hC hR dX10_law_26 (oi h11)
  have hc12 : false = c7 → GX Γ LAY 0 0 [some (.ref (gad Γ 62)), some (.int what1), some (.int x2), none] [] m4 27 := by
    intro q
    have h13 := ifF q.symm h9
    obtain ⟨x14, e15, h16⟩ := ob h13
    suffices hJ17 : GX Γ LAY 0 0 [some (.ref (gad Γ 62)), some (.int what1), some (.int x2), none] [.int x14] m4 42 by
      refine GX_iload_n hC dX10_law_27 rfl ?_
      refine GX_if_ne_N hC 38 dX10_law_28 (by decide) (fun q => ?_) (fun q => ?_)
      · skip
        have h18 := ifP q e15
        refine GX_aload_n hC dX10_law_31 rfl ?_
        refine GX_getI hC fkX10_113 ol_62 rfl dX10_law_32 ?_
        refine GX_goto hC 42 dX10_law_35 (by decide) ?_
        exact GX_nm (oi h18) hJ17
      · skip
        have h19 := ifN q e15
        refine GX_aload_n hC dX10_law_38 rfl ?_
        refine GX_getI hC fkX10_116 ol_62 rfl dX10_law_39 ?_
        exact GX_nm (oi h19) hJ17
    refine GX_istore_n hC [some (.ref (gad Γ 62)), some (.int what1), some (.int x2), some (.int x14)] dX10_law_42 (by decide) rfl rfl ?_
    refine GX_aload_n hC dX10_law_43 rfl ?_
    obtain ⟨x20, e21, h22⟩ := ob h16
    suffices hJ23 : GX Γ LAY 0 0 [some (.ref (gad Γ 62)), some (.int what1), some (.int x2), some (.int x14)] [.int x20, .ref (gad Γ 62)] m4 56 by
      refine GX_iload_n hC dX10_law_44 rfl ?_
      refine GX_if_ne_N hC 52 dX10_law_45 (by decide) (fun q => ?_) (fun q => ?_)
      · skip
        have h24 := ifP q e21
        refine GX_iload_n hC dX10_law_48 rfl ?_
        refine GX_goto hC 56 dX10_law_49 (by decide) ?_
        exact GX_nm (oi h24) hJ23
      · skip
        have h25 := ifN q e21
        refine GX_aload_n hC dX10_law_52 rfl ?_
        refine GX_getI hC fkX10_113 ol_62 rfl dX10_law_53 ?_
        exact GX_nm (oi h25) hJ23
    obtain ⟨m26, e27, h28⟩ := ob h22
    refine GX_stF hC e27 fkX10_113 ftX10_3 ol_62 rfl dX10_law_56 ?_
    refine GX_aload_n hC dX10_law_59 rfl ?_
    obtain ⟨x29, e30, h31⟩ := ob h28
    suffices hJ32 : GX Γ LAY 0 0 [some (.ref (gad Γ 62)), some (.int what1), some (.int x2), some (.int x14)] [.int x29, .ref (gad Γ 62)] m26 73 by
      refine GX_iload_n hC dX10_law_60 rfl ?_
      refine GX_iconst hC 1 dX10_law_61 rfl ?_
      refine GX_icmp_ne_N hC 69 dX10_law_62 (by decide) (fun q => ?_) (fun q => ?_)
      · skip
        have h33 := ifP q e30
        refine GX_iload_n hC dX10_law_65 rfl ?_
        refine GX_goto hC 73 dX10_law_66 (by decide) ?_
        exact GX_nm (oi h33) hJ32
      · skip
        have h34 := ifN q e30
        refine GX_aload_n hC dX10_law_69 rfl ?_
        refine GX_getI hC fkX10_116 ol_62 rfl dX10_law_70 ?_
        exact GX_nm (oi h34) hJ32
    obtain ⟨m35, e36, h37⟩ := ob h31
    refine GX_stF hC e36 fkX10_116 ftX10_4 ol_62 rfl dX10_law_73 ?_
    refine GX_iload_n hC dX10_law_76 rfl ?_
    exact GX_iretW hC hR dX10_law_77 (oi h37)
  refine GX_iload_n hC dX10_law_5 rfl ?_
  refine GX_i2l hC dX10_law_6 ?_
  refine GX_lconst hC 0 dX10_law_7 rfl ?_
  refine GX_lconst hC 1 dX10_law_8 rfl ?_
  obtain ⟨b38, e39, h40⟩ := ob e8
  refine GX_callS_i (st := []) hC (C_M_in e39) okX10_in lkX10_106 rfl (Nat.le_of_ble_eq_true rfl) (Nat.le_of_ble_eq_true rfl) hk rfl (Nat.le_of_ble_eq_true rfl) dX10_law_9 ?_
  refine GX_ifb_eq hC 25 dX10_law_12 (by decide) (fun q => ?_) (fun q => ?_)
  · skip
    have h41 := ifT q h40
    refine GX_iload_n hC dX10_law_15 rfl ?_
    refine GX_i2l hC dX10_law_16 ?_
    refine GX_lconst hC 0 dX10_law_17 rfl ?_
    refine GX_lconst hC 1 dX10_law_18 rfl ?_
    obtain ⟨b42, e43, h44⟩ := ob h41
    refine GX_callS_i (st := []) hC (C_M_in e43) okX10_in lkX10_106 rfl (Nat.le_of_ble_eq_true rfl) (Nat.le_of_ble_eq_true rfl) hk rfl (Nat.le_of_ble_eq_true rfl) dX10_law_19 ?_
    refine GX_ifb_ne hC 27 dX10_law_22 (by decide) (fun q => ?_) (fun q => ?_)
    · skip
      exact hc12 (cbnT q h44)
    · skip
      exact hc10 (cbnF q h44)
  · skip
    have h45 := ifF q h40
    exact hc10 (oi h45)
set_option maxRecDepth 100000 in
set_option maxHeartbeats 4000000 in
theorem C_M_owns {l : Launch} {p1 : Int32} {f2 : Int32} {m3 : MI} {r0 : Int32} {mr : MI}  (hf : M_owns p1 f2 m3 = some (r0, mr)) : Cn l yX10_owns cX10_owns 4 (some .int) 2 LAY (fun ad => .ref (ad 62) :: [.int p1, .int f2]) m3 (fun _ => some (.int r0)) mr := by
  refine Cn.of (fun ad => [some (.ref (ad 62)), some (.int p1), some (.int f2), none]) (by decide +kernel) (fun _ => rfl) (fun _ => Nat.le_of_ble_eq_true rfl) (fun Γ hl hC hR hk => ?_)
  subst hl
  replace hC : CX Γ cX10_owns RX10 LAY 2 4 := hC
  dsimp only [M_owns] at hf
  refine GX_aload_n hC dX10_owns_0 rfl ?_
  refine GX_iconst hC 0 dX10_owns_1 rfl ?_
  obtain ⟨m4, e5, h6⟩ := ob hf
  refine GX_stF hC e5 fkX10_99 ftX10_10 ol_62 rfl dX10_owns_2 ?_
  obtain ⟨c7, e8, h9⟩ := ob h6
  have hc10 : true = c7 → GX Γ LAY 0 0 [some (.ref (gad Γ 62)), some (.int p1), some (.int f2), none] [] m4 27 := by
    intro q
    have h11 := ifT q.symm h9
    refine GX_iconst hC (-1) dX10_owns_27 rfl ?_
    exact GX_iretW hC hR dX10_owns_28 (oi h11)
  have hc12 : false = c7 → GX Γ LAY 0 0 [some (.ref (gad Γ 62)), some (.int p1), some (.int f2), none] [] m4 29 := by
    intro q
    have h13 := ifF q.symm h9
    refine GX_aload_n hC dX10_owns_29 rfl ?_
    refine GX_getR hC fkX10_25 ol_62 rfl dX10_owns_30 ?_
    refine GX_iload_n hC dX10_owns_33 rfl ?_
    obtain ⟨x14, e15, h16⟩ := ob h13
    refine GX_ldA hC e15 al_68 dX10_owns_34 ?_
    refine GX_istore_n hC [some (.ref (gad Γ 62)), some (.int p1), some (.int f2), some (.int x14)] dX10_owns_35 (by decide) rfl rfl ?_
    refine GX_aload_n hC dX10_owns_36 rfl ?_
    refine GX_getR hC fkX10_25 ol_62 rfl dX10_owns_37 ?_
    refine GX_iload_n hC dX10_owns_40 rfl ?_
    obtain ⟨x17, e18, h19⟩ := ob h16
    suffices hJ20 : GX Γ LAY 0 0 [some (.ref (gad Γ 62)), some (.int p1), some (.int f2), some (.int x14)] [.int x17, .int f2, .ref (gad Γ 68)] m4 54 by
      refine GX_iload_n hC dX10_owns_41 rfl ?_
      refine GX_bipush hC 9 dX10_owns_42 rfl ?_
      refine GX_icmp_ne_N hC 51 dX10_owns_44 (by decide) (fun q => ?_) (fun q => ?_)
      · skip
        have h21 := ifP q e18
        refine GX_iconst hC 0 dX10_owns_47 rfl ?_
        refine GX_goto hC 54 dX10_owns_48 (by decide) ?_
        exact GX_nm (oi h21) hJ20
      · skip
        have h22 := ifN q e18
        refine GX_iload_n hC dX10_owns_51 rfl ?_
        refine GX_iconst hC 1 dX10_owns_52 rfl ?_
        refine GX_iadd hC dX10_owns_53 ?_
        exact GX_nm (oi h22) hJ20
    obtain ⟨m23, e24, h25⟩ := ob h19
    refine GX_stA hC e24 al_68 dX10_owns_54 ?_
    obtain ⟨x26, e27, h28⟩ := ob h25
    suffices hJ29 : GX Γ LAY 0 0 [some (.ref (gad Γ 62)), some (.int p1), some (.int f2), some (.int x14)] [.int x26] m23 67 by
      refine GX_iload_n hC dX10_owns_55 rfl ?_
      refine GX_if_ne_N hC 64 dX10_owns_56 (by decide) (fun q => ?_) (fun q => ?_)
      · skip
        have h30 := ifP q e27
        refine GX_bipush hC 9 dX10_owns_59 rfl ?_
        refine GX_goto hC 67 dX10_owns_61 (by decide) ?_
        exact GX_nm (oi h30) hJ29
      · skip
        have h31 := ifN q e27
        refine GX_iload_n hC dX10_owns_64 rfl ?_
        refine GX_iconst hC 1 dX10_owns_65 rfl ?_
        refine GX_isub hC dX10_owns_66 ?_
        exact GX_nm (oi h31) hJ29
    exact GX_iretW hC hR dX10_owns_67 (oi h28)
  obtain ⟨c32, e33, h34⟩ := ob e8
  have hc35 : true = c32 → GX Γ LAY 0 0 [some (.ref (gad Γ 62)), some (.int p1), some (.int f2), none] [] m4 27 := by
    intro q
    have h36 := ifT q.symm h34
    exact hc10 (oi h36)
  have hc37 : false = c32 → GX Γ LAY 0 0 [some (.ref (gad Γ 62)), some (.int p1), some (.int f2), none] [] m4 19 := by
    intro q
    have h38 := ifF q.symm h34
    refine GX_aload_n hC dX10_owns_19 rfl ?_
    refine GX_iload_n hC dX10_owns_20 rfl ?_
    obtain ⟨b39, e40, h41⟩ := ob h38
    refine GX_callV_i (st := []) hC (C_M_isField e40) okX10_isField lkX10_178 ol_62 rfl rfl (Nat.le_of_ble_eq_true rfl) (Nat.le_of_ble_eq_true rfl) hk rfl (Nat.le_of_ble_eq_true rfl) dX10_owns_21 ?_
    refine GX_ifb_ne hC 29 dX10_owns_24 (by decide) (fun q => ?_) (fun q => ?_)
    · skip
      exact hc12 (cbnT q h41)
    · skip
      exact hc10 (cbnF q h41)
  refine GX_aload_n hC dX10_owns_5 rfl ?_
  refine GX_iload_n hC dX10_owns_6 rfl ?_
  obtain ⟨b42, e43, h44⟩ := ob e33
  refine GX_callV_i (st := []) hC (C_M_isPerson e43) okX10_isPerson lkX10_181 ol_62 rfl rfl (Nat.le_of_ble_eq_true rfl) (Nat.le_of_ble_eq_true rfl) hk rfl (Nat.le_of_ble_eq_true rfl) dX10_owns_7 ?_
  refine GX_ifb_ne hC 19 dX10_owns_10 (by decide) (fun q => ?_) (fun q => ?_)
  · skip
    have h45 := ifT q h44
    exact hc37 (oi h45)
  · skip
    have h46 := ifF q h44
    refine GX_iload_n hC dX10_owns_13 rfl ?_
    refine GX_bipush hC 9 dX10_owns_14 rfl ?_
    refine GX_icmp_ne_P hC 27 dX10_owns_16 (by decide) (fun q => ?_) (fun q => ?_)
    · skip
      exact hc35 (cdT q h46)
    · skip
      exact hc37 (cdF q h46)
set_option maxRecDepth 100000 in
set_option maxHeartbeats 4000000 in
theorem C_M_lawful {l : Launch} {m1 : MI} {r0 : Int32} {mr : MI}  (hf : M_lawful m1 = some (r0, mr)) : Cn l yX10_lawful cX10_lawful 1 (some .int) 3 LAY (fun ad => .ref (ad 62) :: []) m1 (fun _ => some (.int r0)) mr := by
  refine Cn.of (fun ad => [some (.ref (ad 62))]) (by decide +kernel) (fun _ => rfl) (fun _ => Nat.le_of_ble_eq_true rfl) (fun Γ hl hC hR hk => ?_)
  subst hl
  replace hC : CX Γ cX10_lawful RX10 LAY 3 1 := hC
  dsimp only [M_lawful] at hf
  refine GX_aload_n hC dX10_lawful_0 rfl ?_
  refine GX_iconst hC 0 dX10_lawful_1 rfl ?_
  obtain ⟨m2, e3, h4⟩ := ob hf
  refine GX_stF hC e3 fkX10_99 ftX10_10 ol_62 rfl dX10_lawful_2 ?_
  refine GX_aload_n hC dX10_lawful_5 rfl ?_
  obtain ⟨m5, e6, h7⟩ := ob h4
  refine GX_callV_v (st := []) hC (C_M_takeNow e6) okX10_takeNow lkX10_204 ol_62 rfl rfl (Nat.le_of_ble_eq_true rfl) (Nat.le_of_ble_eq_true rfl) hk rfl (Nat.le_of_ble_eq_true rfl) dX10_lawful_6 ?_
  obtain ⟨x8, e9, h10⟩ := ob h7
  suffices hJ11 : GX Γ LAY 0 0 [some (.ref (gad Γ 62))] [.int x8] m5 21 by
    refine GX_aload_n hC dX10_lawful_9 rfl ?_
    obtain ⟨b12, e13, h14⟩ := ob e9
    refine GX_callV_i (st := []) hC (C_M_isFine e13) okX10_isFine lkX10_210 ol_62 rfl rfl (Nat.le_of_ble_eq_true rfl) (Nat.le_of_ble_eq_true rfl) hk rfl (Nat.le_of_ble_eq_true rfl) dX10_lawful_10 ?_
    refine GX_ifb_eq hC 20 dX10_lawful_13 (by decide) (fun q => ?_) (fun q => ?_)
    · skip
      have h15 := ifT q h14
      refine GX_iconst hC 1 dX10_lawful_16 rfl ?_
      refine GX_goto hC 21 dX10_lawful_17 (by decide) ?_
      exact GX_nm (oi h15) hJ11
    · skip
      have h16 := ifF q h14
      refine GX_iconst hC 0 dX10_lawful_20 rfl ?_
      exact GX_nm (oi h16) hJ11
  exact GX_iretW hC hR dX10_lawful_21 (oi h10)
set_option maxRecDepth 100000 in
set_option maxHeartbeats 4000000 in
theorem C_M_firstUnlawful {l : Launch} {m1 : MI} {r0 : Int32} {mr : MI}  (hf : M_firstUnlawful m1 = some (r0, mr)) : Cn l yX10_firstUnlawful cX10_firstUnlawful 3 (some .int) 2 LAY (fun ad => .ref (ad 62) :: []) m1 (fun _ => some (.int r0)) mr := by
  refine Cn.of (fun ad => [some (.ref (ad 62)), none, none]) (by decide +kernel) (fun _ => rfl) (fun _ => Nat.le_of_ble_eq_true rfl) (fun Γ hl hC hR hk => ?_)
  subst hl
  replace hC : CX Γ cX10_firstUnlawful RX10 LAY 2 3 := hC
  dsimp only [M_firstUnlawful] at hf
  refine GX_aload_n hC dX10_firstUnlawful_0 rfl ?_
  refine GX_iconst hC 0 dX10_firstUnlawful_1 rfl ?_
  obtain ⟨m2, e3, h4⟩ := ob hf
  refine GX_stF hC e3 fkX10_99 ftX10_10 ol_62 rfl dX10_firstUnlawful_2 ?_
  refine GX_aload_n hC dX10_firstUnlawful_5 rfl ?_
  obtain ⟨m5, e6, h7⟩ := ob h4
  refine GX_callV_v (st := []) hC (C_M_takeNow e6) okX10_takeNow lkX10_204 ol_62 rfl rfl (Nat.le_of_ble_eq_true rfl) (Nat.le_of_ble_eq_true rfl) hk rfl (Nat.le_of_ble_eq_true rfl) dX10_firstUnlawful_6 ?_
  refine GX_iconst hC 0 dX10_firstUnlawful_9 rfl ?_
  refine GX_istore_n hC [some (.ref (gad Γ 62)), some (.int 0), none] dX10_firstUnlawful_10 (by decide) rfl rfl ?_
  obtain ⟨o8, e9, h10⟩ := ob h7
  have hR11 : ∀ res : Int32 × MI, Sum.inr res = o8 → res = (r0, mr) := by
    intro res q
    subst q
    have h10 := seR h10
    exact (oi h10)
  suffices hJ11 : Sum.inl () = o8 → GX Γ LAY 0 0 [some (.ref (gad Γ 62)), none, none] [] m5 59 by
    refine lp_walk (P := fun s => GX Γ LAY 0 0 [some (.ref (gad Γ 62)), some (.int s), none] [] m5 11) (fun a12 x hx11 hI11 hO11 => ?_) _ _ e9
    show GX Γ LAY 0 0 [some (.ref (gad Γ 62)), some (.int a12), none] [] m5 11
    dsimp only [M_firstUnlawful_s1] at hx11
    refine GX_iload_n hC dX10_firstUnlawful_11 rfl ?_
    refine GX_aload_n hC dX10_firstUnlawful_12 rfl ?_
    refine GX_getI hC fkX10_103 ol_62 rfl dX10_firstUnlawful_13 ?_
    refine GX_icmp_ge_N hC 59 dX10_firstUnlawful_16 (by decide) (fun q => ?_) (fun q => ?_)
    · skip
      have h13 := ifP q hx11
      refine GX_iload_n hC dX10_firstUnlawful_19 rfl ?_
      refine GX_iconst hC 1 dX10_firstUnlawful_20 rfl ?_
      refine GX_iadd hC dX10_firstUnlawful_21 ?_
      obtain ⟨b14, e15, h16⟩ := ob h13
      refine GX_nm (oi e15) ?_
      refine GX_istore_n hC [some (.ref (gad Γ 62)), some (.int a12), some (.int b14)] dX10_firstUnlawful_22 (by decide) rfl rfl ?_
      obtain ⟨o17, e18, h19⟩ := ob h16
      have hR20 : ∀ res : Int32 × MI, Sum.inr res = o17 → res = (r0, mr) := by
        intro res q
        subst q
        have h19 := seR h19
        exact (hR11 _ (hO11 _ (oi h19).symm))
      suffices hJ20 : Sum.inl () = o17 → GX Γ LAY 0 0 [some (.ref (gad Γ 62)), some (.int a12), none] [] m5 53 by
        refine lp_walk (P := fun s => GX Γ LAY 0 0 [some (.ref (gad Γ 62)), some (.int a12), some (.int s)] [] m5 23) (fun b21 x hx20 hI20 hO20 => ?_) _ _ e18
        show GX Γ LAY 0 0 [some (.ref (gad Γ 62)), some (.int a12), some (.int b21)] [] m5 23
        dsimp only [M_firstUnlawful_s2] at hx20
        refine GX_iload_n hC dX10_firstUnlawful_23 rfl ?_
        refine GX_aload_n hC dX10_firstUnlawful_24 rfl ?_
        refine GX_getI hC fkX10_103 ol_62 rfl dX10_firstUnlawful_25 ?_
        refine GX_icmp_ge_N hC 53 dX10_firstUnlawful_28 (by decide) (fun q => ?_) (fun q => ?_)
        · skip
          have h22 := ifP q hx20
          refine GX_aload_n hC dX10_firstUnlawful_31 rfl ?_
          refine GX_iload_n hC dX10_firstUnlawful_32 rfl ?_
          refine GX_iload_n hC dX10_firstUnlawful_33 rfl ?_
          obtain ⟨b23, e24, h25⟩ := ob h22
          refine GX_callV_i (st := []) hC (C_M_areApart e24) okX10_areApart lkX10_126 ol_62 rfl rfl (Nat.le_of_ble_eq_true rfl) (Nat.le_of_ble_eq_true rfl) hk rfl (Nat.le_of_ble_eq_true rfl) dX10_firstUnlawful_34 ?_
          refine GX_ifb_ne hC 47 dX10_firstUnlawful_37 (by decide) (fun q => ?_) (fun q => ?_)
          · skip
            have h26 := ifT q h25
            obtain ⟨i27, e28, h29⟩ := ob h26
            refine GX_iinc hC i27 [some (.ref (gad Γ 62)), some (.int a12), some (.int i27)] dX10_firstUnlawful_47 rfl (oi e28) (by decide) rfl rfl ?_
            refine GX_goto hC 23 dX10_firstUnlawful_50 (by decide) ?_
            exact hI20 _ (oi h29).symm
          · skip
            have h30 := ifF q h25
            refine GX_bipush hC 10 dX10_firstUnlawful_40 rfl ?_
            refine GX_iload_n hC dX10_firstUnlawful_42 rfl ?_
            refine GX_imul hC dX10_firstUnlawful_43 ?_
            refine GX_iload_n hC dX10_firstUnlawful_44 rfl ?_
            refine GX_iadd hC dX10_firstUnlawful_45 ?_
            exact GX_iretW hC hR dX10_firstUnlawful_46 (hR20 _ (hO20 _ (oi h30).symm))
        · skip
          have h31 := ifN q hx20
          exact GX.le (hJ20 (hO20 _ (oi h31).symm)) ⟨rfl, ⟨rfl, trivial⟩⟩
      intro q32
      subst q32
      have h19 := seL h19
      obtain ⟨i33, e34, h35⟩ := ob h19
      refine GX_iinc hC i33 [some (.ref (gad Γ 62)), some (.int i33), none] dX10_firstUnlawful_53 rfl (oi e34) (by decide) rfl rfl ?_
      refine GX_goto hC 11 dX10_firstUnlawful_56 (by decide) ?_
      exact hI11 _ (oi h35).symm
    · skip
      have h37 := ifN q hx11
      exact GX.le (hJ11 (hO11 _ (oi h37).symm)) ⟨rfl, trivial⟩
  intro q38
  subst q38
  have h10 := seL h10
  refine GX_bipush hC (-4) dX10_firstUnlawful_59 rfl ?_
  exact GX_iretW hC hR dX10_firstUnlawful_61 (oi h10)
set_option maxRecDepth 100000 in
set_option maxHeartbeats 4000000 in
theorem C_M_wrongMove {l : Launch} {d1 : Int32} {m2 : MI} {r0 : Int32}  (hf : M_wrongMove d1 m2 = some r0) : Cn l yX10_wrongMove cX10_wrongMove 2 (some .int) 1 LAY (fun ad => .ref (ad 62) :: [.int d1]) m2 (fun _ => some (.int r0)) m2 := by
  refine Cn.of (fun ad => [some (.ref (ad 62)), some (.int d1)]) (by decide +kernel) (fun _ => rfl) (fun _ => Nat.le_of_ble_eq_true rfl) (fun Γ hl hC hR hk => ?_)
  subst hl
  replace hC : CX Γ cX10_wrongMove RX10 LAY 1 2 := hC
  dsimp only [M_wrongMove] at hf
  obtain ⟨x3, e4, h5⟩ := ob hf
  suffices hJ6 : GX Γ LAY 0 0 [some (.ref (gad Γ 62)), some (.int d1)] [.int x3] m2 46 by
    refine GX_iload_n hC dX10_wrongMove_0 rfl ?_
    refine GX_i2l hC dX10_wrongMove_1 ?_
    refine GX_lconst hC 0 dX10_wrongMove_2 rfl ?_
    refine GX_ldc2 hC 7 kcX10_214 dX10_wrongMove_3 ?_
    obtain ⟨b7, e8, h9⟩ := ob e4
    refine GX_callS_i (st := []) hC (C_M_in e8) okX10_in lkX10_106 rfl (Nat.le_of_ble_eq_true rfl) (Nat.le_of_ble_eq_true rfl) hk rfl (Nat.le_of_ble_eq_true rfl) dX10_wrongMove_6 ?_
    refine GX_ifb_ne hC 16 dX10_wrongMove_9 (by decide) (fun q => ?_) (fun q => ?_)
    · skip
      have h10 := ifT q h9
      obtain ⟨x11, e12, h13⟩ := ob h10
      suffices hJ14 : GX Γ LAY 0 0 [some (.ref (gad Γ 62)), some (.int d1)] [.int x11] m2 46 by
        refine GX_aload_n hC dX10_wrongMove_16 rfl ?_
        refine GX_getR hC fkX10_77 ol_62 rfl dX10_wrongMove_17 ?_
        refine GX_iload_n hC dX10_wrongMove_20 rfl ?_
        obtain ⟨x15, e16, h17⟩ := ob e12
        refine GX_ldA hC e16 al_85 dX10_wrongMove_21 ?_
        refine GX_if_ne_N hC 30 dX10_wrongMove_22 (by decide) (fun q => ?_) (fun q => ?_)
        · skip
          have h18 := ifP q h17
          refine GX_bipush hC (-11) dX10_wrongMove_25 rfl ?_
          refine GX_goto hC 46 dX10_wrongMove_27 (by decide) ?_
          exact GX_nm (oi h18) hJ14
        · skip
          have h19 := ifN q h17
          obtain ⟨x20, e21, h22⟩ := ob h19
          suffices hJ23 : GX Γ LAY 0 0 [some (.ref (gad Γ 62)), some (.int d1)] [.int x20] m2 46 by
            refine GX_aload_n hC dX10_wrongMove_30 rfl ?_
            refine GX_getR hC fkX10_77 ol_62 rfl dX10_wrongMove_31 ?_
            refine GX_iload_n hC dX10_wrongMove_34 rfl ?_
            obtain ⟨x24, e25, h26⟩ := ob e21
            refine GX_ldA hC e25 al_85 dX10_wrongMove_35 ?_
            refine GX_iconst hC 1 dX10_wrongMove_36 rfl ?_
            refine GX_icmp_eq_N hC 45 dX10_wrongMove_37 (by decide) (fun q => ?_) (fun q => ?_)
            · skip
              have h27 := ifP q h26
              refine GX_bipush hC (-12) dX10_wrongMove_40 rfl ?_
              refine GX_goto hC 46 dX10_wrongMove_42 (by decide) ?_
              exact GX_nm (oi h27) hJ23
            · skip
              have h28 := ifN q h26
              refine GX_iconst hC 0 dX10_wrongMove_45 rfl ?_
              exact GX_nm (oi h28) hJ23
          exact GX_nm (oi h22) hJ14
      exact GX_nm (oi h13) hJ6
    · skip
      have h29 := ifF q h9
      refine GX_iconst hC (-1) dX10_wrongMove_12 rfl ?_
      refine GX_goto hC 46 dX10_wrongMove_13 (by decide) ?_
      exact GX_nm (oi h29) hJ6
  exact GX_iretR hC hR dX10_wrongMove_46 (oi h5)
set_option maxRecDepth 100000 in
set_option maxHeartbeats 4000000 in
theorem C_M_openMove {l : Launch} {d1 : Int32} {m2 : MI} {r0 : Bool} {mr : MI}  (hf : M_openMove d1 m2 = some (r0, mr)) : Cn l yX10_openMove cX10_openMove 3 (some .boolean) 2 LAY (fun ad => .ref (ad 62) :: [.int d1]) m2 (fun _ => some (.int (bI r0))) mr := by
  refine Cn.of (fun ad => [some (.ref (ad 62)), some (.int d1), none]) (by decide +kernel) (fun _ => rfl) (fun _ => Nat.le_of_ble_eq_true rfl) (fun Γ hl hC hR hk => ?_)
  subst hl
  replace hC : CX Γ cX10_openMove RX10 LAY 2 3 := hC
  dsimp only [M_openMove] at hf
  refine GX_aload_n hC dX10_openMove_0 rfl ?_
  refine GX_aload_n hC dX10_openMove_1 rfl ?_
  refine GX_getR hC fkX10_80 ol_62 rfl dX10_openMove_2 ?_
  refine GX_iload_n hC dX10_openMove_5 rfl ?_
  obtain ⟨x3, e4, h5⟩ := ob hf
  refine GX_ldA hC e4 al_86 dX10_openMove_6 ?_
  obtain ⟨m6, e7, h8⟩ := ob h5
  refine GX_stF hC e7 fkX10_216 ftX10_26 ol_62 rfl dX10_openMove_7 ?_
  refine GX_aload_n hC dX10_openMove_10 rfl ?_
  refine GX_aload_n hC dX10_openMove_11 rfl ?_
  refine GX_getR hC fkX10_83 ol_62 rfl dX10_openMove_12 ?_
  refine GX_iload_n hC dX10_openMove_15 rfl ?_
  obtain ⟨x9, e10, h11⟩ := ob h8
  refine GX_ldA hC e10 al_87 dX10_openMove_16 ?_
  refine GX_sipush hC 1000 dX10_openMove_17 rfl ?_
  refine GX_idiv hC dX10_openMove_20 (by decide) ?_
  obtain ⟨m12, e13, h14⟩ := ob h11
  refine GX_stF hC e13 fkX10_219 ftX10_22 ol_62 rfl dX10_openMove_21 ?_
  refine GX_aload_n hC dX10_openMove_24 rfl ?_
  refine GX_aload_n hC dX10_openMove_25 rfl ?_
  refine GX_getR hC fkX10_83 ol_62 rfl dX10_openMove_26 ?_
  refine GX_iload_n hC dX10_openMove_29 rfl ?_
  obtain ⟨x15, e16, h17⟩ := ob h14
  refine GX_ldA hC e16 al_87 dX10_openMove_30 ?_
  refine GX_bipush hC 100 dX10_openMove_31 rfl ?_
  refine GX_idiv hC dX10_openMove_33 (by decide) ?_
  refine GX_bipush hC 10 dX10_openMove_34 rfl ?_
  refine GX_irem hC dX10_openMove_36 (by decide) ?_
  obtain ⟨m18, e19, h20⟩ := ob h17
  refine GX_stF hC e19 fkX10_222 ftX10_23 ol_62 rfl dX10_openMove_37 ?_
  refine GX_aload_n hC dX10_openMove_40 rfl ?_
  refine GX_aload_n hC dX10_openMove_41 rfl ?_
  refine GX_getR hC fkX10_83 ol_62 rfl dX10_openMove_42 ?_
  refine GX_iload_n hC dX10_openMove_45 rfl ?_
  obtain ⟨x21, e22, h23⟩ := ob h20
  refine GX_ldA hC e22 al_87 dX10_openMove_46 ?_
  refine GX_bipush hC 10 dX10_openMove_47 rfl ?_
  refine GX_idiv hC dX10_openMove_49 (by decide) ?_
  refine GX_bipush hC 10 dX10_openMove_50 rfl ?_
  refine GX_irem hC dX10_openMove_52 (by decide) ?_
  obtain ⟨m24, e25, h26⟩ := ob h23
  refine GX_stF hC e25 fkX10_225 ftX10_24 ol_62 rfl dX10_openMove_53 ?_
  refine GX_aload_n hC dX10_openMove_56 rfl ?_
  refine GX_aload_n hC dX10_openMove_57 rfl ?_
  refine GX_getR hC fkX10_83 ol_62 rfl dX10_openMove_58 ?_
  refine GX_iload_n hC dX10_openMove_61 rfl ?_
  obtain ⟨x27, e28, h29⟩ := ob h26
  refine GX_ldA hC e28 al_87 dX10_openMove_62 ?_
  refine GX_bipush hC 10 dX10_openMove_63 rfl ?_
  refine GX_irem hC dX10_openMove_65 (by decide) ?_
  obtain ⟨m30, e31, h32⟩ := ob h29
  refine GX_stF hC e31 fkX10_228 ftX10_25 ol_62 rfl dX10_openMove_66 ?_
  obtain ⟨c33, e34, h35⟩ := ob h32
  suffices hJ36 : GX Γ LAY 0 0 [some (.ref (gad Γ 62)), some (.int d1), none] [.int (bI c33)] m30 98 by
    have hc37 : true = c33 → GX Γ LAY 0 0 [some (.ref (gad Γ 62)), some (.int d1), none] [] m30 93 := by
      intro q
      subst q
      refine GX_iconst hC (bI true) dX10_openMove_93 rfl ?_
      refine GX_goto hC 98 dX10_openMove_94 (by decide) ?_
      exact hJ36
    have hc38 : false = c33 → GX Γ LAY 0 0 [some (.ref (gad Γ 62)), some (.int d1), none] [] m30 97 := by
      intro q
      subst q
      refine GX_iconst hC (bI false) dX10_openMove_97 rfl ?_
      exact hJ36
    refine GX_aload_n hC dX10_openMove_69 rfl ?_
    refine GX_getI hC fkX10_216 ol_62 rfl dX10_openMove_70 ?_
    refine GX_iconst hC 2 dX10_openMove_73 rfl ?_
    refine GX_icmp_eq_P hC 93 dX10_openMove_74 (by decide) (fun q => ?_) (fun q => ?_)
    · skip
      have h39 := ifP q e34
      exact hc37 (oi h39)
    · skip
      have h40 := ifN q e34
      refine GX_aload_n hC dX10_openMove_77 rfl ?_
      refine GX_getI hC fkX10_216 ol_62 rfl dX10_openMove_78 ?_
      refine GX_iconst hC 3 dX10_openMove_81 rfl ?_
      refine GX_icmp_eq_P hC 93 dX10_openMove_82 (by decide) (fun q => ?_) (fun q => ?_)
      · skip
        have h41 := ifP q h40
        exact hc37 (oi h41)
      · skip
        have h42 := ifN q h40
        refine GX_aload_n hC dX10_openMove_85 rfl ?_
        refine GX_getI hC fkX10_216 ol_62 rfl dX10_openMove_86 ?_
        refine GX_iconst hC 5 dX10_openMove_89 rfl ?_
        refine GX_icmp_ne_N hC 97 dX10_openMove_90 (by decide) (fun q => ?_) (fun q => ?_)
        · skip
          exact hc37 (cdT q h42)
        · skip
          exact hc38 (cdF q h42)
  refine GX_istore_n hC [some (.ref (gad Γ 62)), some (.int d1), some (.int (bI c33))] dX10_openMove_98 (by decide) rfl rfl ?_
  obtain ⟨c43, e44, h45⟩ := ob h35
  suffices hJ46 : GX Γ LAY 0 0 [some (.ref (gad Γ 62)), some (.int d1), some (.int (bI c33))] [.int (bI c43)] m30 160 by
    have hc47 : true = c43 → GX Γ LAY 0 0 [some (.ref (gad Γ 62)), some (.int d1), some (.int (bI c33))] [] m30 155 := by
      intro q
      subst q
      refine GX_iconst hC (bI true) dX10_openMove_155 rfl ?_
      refine GX_goto hC 160 dX10_openMove_156 (by decide) ?_
      exact hJ46
    have hc48 : false = c43 → GX Γ LAY 0 0 [some (.ref (gad Γ 62)), some (.int d1), some (.int (bI c33))] [] m30 159 := by
      intro q
      subst q
      refine GX_iconst hC (bI false) dX10_openMove_159 rfl ?_
      exact hJ46
    refine GX_aload_n hC dX10_openMove_99 rfl ?_
    refine GX_aload_n hC dX10_openMove_100 rfl ?_
    refine GX_getI hC fkX10_219 ol_62 rfl dX10_openMove_101 ?_
    obtain ⟨b49, e50, h51⟩ := ob e44
    refine GX_callV_i (st := []) hC (C_M_isPerson e50) okX10_isPerson lkX10_181 ol_62 rfl rfl (Nat.le_of_ble_eq_true rfl) (Nat.le_of_ble_eq_true rfl) hk rfl (Nat.le_of_ble_eq_true rfl) dX10_openMove_104 ?_
    refine GX_ifb_eq hC 159 dX10_openMove_107 (by decide) (fun q => ?_) (fun q => ?_)
    · skip
      have h52 := ifT q h51
      refine GX_aload_n hC dX10_openMove_110 rfl ?_
      refine GX_aload_n hC dX10_openMove_111 rfl ?_
      refine GX_getI hC fkX10_222 ol_62 rfl dX10_openMove_112 ?_
      obtain ⟨b53, e54, h55⟩ := ob h52
      refine GX_callV_i (st := []) hC (C_M_isField e54) okX10_isField lkX10_178 ol_62 rfl rfl (Nat.le_of_ble_eq_true rfl) (Nat.le_of_ble_eq_true rfl) hk rfl (Nat.le_of_ble_eq_true rfl) dX10_openMove_115 ?_
      refine GX_ifb_eq hC 159 dX10_openMove_118 (by decide) (fun q => ?_) (fun q => ?_)
      · skip
        have h56 := ifT q h55
        obtain ⟨c57, e58, h59⟩ := ob h56
        have hc60 : true = c57 → GX Γ LAY 0 0 [some (.ref (gad Γ 62)), some (.int d1), some (.int (bI c33))] [] m30 136 := by
          intro q
          have h61 := ifT q.symm h59
          refine GX_aload_n hC dX10_openMove_136 rfl ?_
          refine GX_getI hC fkX10_216 ol_62 rfl dX10_openMove_137 ?_
          refine GX_iconst hC 3 dX10_openMove_140 rfl ?_
          refine GX_icmp_ne_P hC 155 dX10_openMove_141 (by decide) (fun q => ?_) (fun q => ?_)
          · skip
            have h62 := ifP q h61
            exact hc47 (oi h62)
          · skip
            have h63 := ifN q h61
            refine GX_aload_n hC dX10_openMove_144 rfl ?_
            refine GX_aload_n hC dX10_openMove_145 rfl ?_
            refine GX_getI hC fkX10_228 ol_62 rfl dX10_openMove_146 ?_
            obtain ⟨b64, e65, h66⟩ := ob h63
            refine GX_callV_i (st := []) hC (C_M_isField e65) okX10_isField lkX10_178 ol_62 rfl rfl (Nat.le_of_ble_eq_true rfl) (Nat.le_of_ble_eq_true rfl) hk rfl (Nat.le_of_ble_eq_true rfl) dX10_openMove_149 ?_
            refine GX_ifb_eq hC 159 dX10_openMove_152 (by decide) (fun q => ?_) (fun q => ?_)
            · skip
              exact hc47 (cbT q h66)
            · skip
              exact hc48 (cbF q h66)
        have hc67 : false = c57 → GX Γ LAY 0 0 [some (.ref (gad Γ 62)), some (.int d1), some (.int (bI c33))] [] m30 159 := by
          intro q
          have h68 := ifF q.symm h59
          exact hc48 (oi h68)
        refine GX_iload_n hC dX10_openMove_121 rfl ?_
        refine GX_ifb_eq hC 136 dX10_openMove_122 (by decide) (fun q => ?_) (fun q => ?_)
        · skip
          have h69 := ifT q e58
          refine GX_aload_n hC dX10_openMove_125 rfl ?_
          refine GX_aload_n hC dX10_openMove_126 rfl ?_
          refine GX_getI hC fkX10_225 ol_62 rfl dX10_openMove_127 ?_
          obtain ⟨b70, e71, h72⟩ := ob h69
          refine GX_callV_i (st := []) hC (C_M_isField e71) okX10_isField lkX10_178 ol_62 rfl rfl (Nat.le_of_ble_eq_true rfl) (Nat.le_of_ble_eq_true rfl) hk rfl (Nat.le_of_ble_eq_true rfl) dX10_openMove_130 ?_
          refine GX_ifb_eq hC 159 dX10_openMove_133 (by decide) (fun q => ?_) (fun q => ?_)
          · skip
            exact hc60 (cbT q h72)
          · skip
            exact hc67 (cbF q h72)
        · skip
          have h73 := ifF q e58
          exact hc60 (oi h73)
      · skip
        have h74 := ifF q h55
        exact hc48 (oi h74)
    · skip
      have h75 := ifF q h51
      exact hc48 (oi h75)
  exact GX_zretW hC c43 hR dX10_openMove_160 (oi h45)
set_option maxRecDepth 100000 in
set_option maxHeartbeats 4000000 in
theorem C_M_isAsTold {l : Launch} {m1 : MI} {r0 : Bool}  (hf : M_isAsTold m1 = some r0) : Cn l yX10_isAsTold cX10_isAsTold 1 (some .boolean) 0 LAY (fun ad => .ref (ad 62) :: []) m1 (fun _ => some (.int (bI r0))) m1 := by
  refine Cn.of (fun ad => [some (.ref (ad 62))]) (by decide +kernel) (fun _ => rfl) (fun _ => Nat.le_of_ble_eq_true rfl) (fun Γ hl hC hR hk => ?_)
  subst hl
  replace hC : CX Γ cX10_isAsTold RX10 LAY 0 1 := hC
  dsimp only [M_isAsTold] at hf
  obtain ⟨c2, e3, h4⟩ := ob hf
  have hc5 : true = c2 → GX Γ LAY 0 0 [some (.ref (gad Γ 62))] [] m1 16 := by
    intro q
    have h6 := ifT q.symm h4
    obtain ⟨c7, e8, h9⟩ := ob h6
    suffices hJ10 : GX Γ LAY 0 0 [some (.ref (gad Γ 62))] [.int (bI c7)] m1 39 by
      have hc11 : true = c7 → GX Γ LAY 0 0 [some (.ref (gad Γ 62))] [] m1 34 := by
        intro q
        subst q
        refine GX_iconst hC (bI true) dX10_isAsTold_34 rfl ?_
        refine GX_goto hC 39 dX10_isAsTold_35 (by decide) ?_
        exact hJ10
      have hc12 : false = c7 → GX Γ LAY 0 0 [some (.ref (gad Γ 62))] [] m1 38 := by
        intro q
        subst q
        refine GX_iconst hC (bI false) dX10_isAsTold_38 rfl ?_
        exact hJ10
      refine GX_aload_n hC dX10_isAsTold_16 rfl ?_
      refine GX_getR hC fkX10_25 ol_62 rfl dX10_isAsTold_17 ?_
      refine GX_aload_n hC dX10_isAsTold_20 rfl ?_
      refine GX_getI hC fkX10_222 ol_62 rfl dX10_isAsTold_21 ?_
      obtain ⟨x13, e14, h15⟩ := ob e8
      refine GX_ldA hC e14 al_68 dX10_isAsTold_24 ?_
      refine GX_aload_n hC dX10_isAsTold_25 rfl ?_
      refine GX_getI hC fkX10_219 ol_62 rfl dX10_isAsTold_26 ?_
      refine GX_iconst hC 1 dX10_isAsTold_29 rfl ?_
      refine GX_iadd hC dX10_isAsTold_30 ?_
      refine GX_icmp_eq_N hC 38 dX10_isAsTold_31 (by decide) (fun q => ?_) (fun q => ?_)
      · skip
        exact hc11 (cdT q h15)
      · skip
        exact hc12 (cdF q h15)
    exact GX_zretR hC c7 hR dX10_isAsTold_39 (oi h9)
  have hc16 : false = c2 → GX Γ LAY 0 0 [some (.ref (gad Γ 62))] [] m1 40 := by
    intro q
    have h17 := ifF q.symm h4
    refine GX_aload_n hC dX10_isAsTold_40 rfl ?_
    refine GX_getI hC fkX10_216 ol_62 rfl dX10_isAsTold_41 ?_
    refine GX_iconst hC 2 dX10_isAsTold_44 rfl ?_
    refine GX_icmp_ne_N hC 65 dX10_isAsTold_45 (by decide) (fun q => ?_) (fun q => ?_)
    · skip
      have h18 := ifP q h17
      obtain ⟨c19, e20, h21⟩ := ob h18
      suffices hJ22 : GX Γ LAY 0 0 [some (.ref (gad Γ 62))] [.int (bI c19)] m1 64 by
        have hc23 : true = c19 → GX Γ LAY 0 0 [some (.ref (gad Γ 62))] [] m1 59 := by
          intro q
          subst q
          refine GX_iconst hC (bI true) dX10_isAsTold_59 rfl ?_
          refine GX_goto hC 64 dX10_isAsTold_60 (by decide) ?_
          exact hJ22
        have hc24 : false = c19 → GX Γ LAY 0 0 [some (.ref (gad Γ 62))] [] m1 63 := by
          intro q
          subst q
          refine GX_iconst hC (bI false) dX10_isAsTold_63 rfl ?_
          exact hJ22
        refine GX_aload_n hC dX10_isAsTold_48 rfl ?_
        refine GX_getI hC fkX10_222 ol_62 rfl dX10_isAsTold_49 ?_
        refine GX_aload_n hC dX10_isAsTold_52 rfl ?_
        refine GX_getI hC fkX10_225 ol_62 rfl dX10_isAsTold_53 ?_
        refine GX_icmp_eq_N hC 63 dX10_isAsTold_56 (by decide) (fun q => ?_) (fun q => ?_)
        · skip
          exact hc23 (cdT q e20)
        · skip
          exact hc24 (cdF q e20)
      exact GX_zretR hC c19 hR dX10_isAsTold_64 (oi h21)
    · skip
      have h25 := ifN q h17
      refine GX_aload_n hC dX10_isAsTold_65 rfl ?_
      refine GX_getI hC fkX10_216 ol_62 rfl dX10_isAsTold_66 ?_
      refine GX_iconst hC 3 dX10_isAsTold_69 rfl ?_
      refine GX_icmp_ne_N hC 112 dX10_isAsTold_70 (by decide) (fun q => ?_) (fun q => ?_)
      · skip
        have h26 := ifP q h25
        obtain ⟨c27, e28, h29⟩ := ob h26
        suffices hJ30 : GX Γ LAY 0 0 [some (.ref (gad Γ 62))] [.int (bI c27)] m1 111 by
          have hc31 : true = c27 → GX Γ LAY 0 0 [some (.ref (gad Γ 62))] [] m1 106 := by
            intro q
            subst q
            refine GX_iconst hC (bI true) dX10_isAsTold_106 rfl ?_
            refine GX_goto hC 111 dX10_isAsTold_107 (by decide) ?_
            exact hJ30
          have hc32 : false = c27 → GX Γ LAY 0 0 [some (.ref (gad Γ 62))] [] m1 110 := by
            intro q
            subst q
            refine GX_iconst hC (bI false) dX10_isAsTold_110 rfl ?_
            exact hJ30
          refine GX_aload_n hC dX10_isAsTold_73 rfl ?_
          refine GX_getI hC fkX10_222 ol_62 rfl dX10_isAsTold_74 ?_
          refine GX_aload_n hC dX10_isAsTold_77 rfl ?_
          refine GX_getI hC fkX10_225 ol_62 rfl dX10_isAsTold_78 ?_
          refine GX_icmp_eq_N hC 110 dX10_isAsTold_81 (by decide) (fun q => ?_) (fun q => ?_)
          · skip
            have h33 := ifP q e28
            refine GX_aload_n hC dX10_isAsTold_84 rfl ?_
            refine GX_getI hC fkX10_222 ol_62 rfl dX10_isAsTold_85 ?_
            refine GX_aload_n hC dX10_isAsTold_88 rfl ?_
            refine GX_getI hC fkX10_228 ol_62 rfl dX10_isAsTold_89 ?_
            refine GX_icmp_eq_N hC 110 dX10_isAsTold_92 (by decide) (fun q => ?_) (fun q => ?_)
            · skip
              have h34 := ifP q h33
              refine GX_aload_n hC dX10_isAsTold_95 rfl ?_
              refine GX_getI hC fkX10_225 ol_62 rfl dX10_isAsTold_96 ?_
              refine GX_aload_n hC dX10_isAsTold_99 rfl ?_
              refine GX_getI hC fkX10_228 ol_62 rfl dX10_isAsTold_100 ?_
              refine GX_icmp_eq_N hC 110 dX10_isAsTold_103 (by decide) (fun q => ?_) (fun q => ?_)
              · skip
                exact hc31 (cdT q h34)
              · skip
                exact hc32 (cdF q h34)
            · skip
              have h35 := ifN q h33
              exact hc32 (oi h35)
          · skip
            have h36 := ifN q e28
            exact hc32 (oi h36)
        exact GX_zretR hC c27 hR dX10_isAsTold_111 (oi h29)
      · skip
        have h37 := ifN q h25
        refine GX_aload_n hC dX10_isAsTold_112 rfl ?_
        refine GX_getI hC fkX10_216 ol_62 rfl dX10_isAsTold_113 ?_
        refine GX_iconst hC 5 dX10_isAsTold_116 rfl ?_
        refine GX_icmp_ne_N hC 158 dX10_isAsTold_117 (by decide) (fun q => ?_) (fun q => ?_)
        · skip
          have h38 := ifP q h37
          obtain ⟨c39, e40, h41⟩ := ob h38
          suffices hJ42 : GX Γ LAY 0 0 [some (.ref (gad Γ 62))] [.int (bI c39)] m1 157 by
            have hc43 : true = c39 → GX Γ LAY 0 0 [some (.ref (gad Γ 62))] [] m1 152 := by
              intro q
              subst q
              refine GX_iconst hC (bI true) dX10_isAsTold_152 rfl ?_
              refine GX_goto hC 157 dX10_isAsTold_153 (by decide) ?_
              exact hJ42
            have hc44 : false = c39 → GX Γ LAY 0 0 [some (.ref (gad Γ 62))] [] m1 156 := by
              intro q
              subst q
              refine GX_iconst hC (bI false) dX10_isAsTold_156 rfl ?_
              exact hJ42
            refine GX_aload_n hC dX10_isAsTold_120 rfl ?_
            refine GX_getI hC fkX10_222 ol_62 rfl dX10_isAsTold_121 ?_
            refine GX_aload_n hC dX10_isAsTold_124 rfl ?_
            refine GX_getI hC fkX10_225 ol_62 rfl dX10_isAsTold_125 ?_
            refine GX_icmp_eq_N hC 156 dX10_isAsTold_128 (by decide) (fun q => ?_) (fun q => ?_)
            · skip
              have h45 := ifP q e40
              refine GX_aload_n hC dX10_isAsTold_131 rfl ?_
              refine GX_getR hC fkX10_13 ol_62 rfl dX10_isAsTold_132 ?_
              refine GX_bipush hC 6 dX10_isAsTold_135 rfl ?_
              refine GX_aload_n hC dX10_isAsTold_137 rfl ?_
              refine GX_getI hC fkX10_222 ol_62 rfl dX10_isAsTold_138 ?_
              refine GX_imul hC dX10_isAsTold_141 ?_
              refine GX_aload_n hC dX10_isAsTold_142 rfl ?_
              refine GX_getI hC fkX10_225 ol_62 rfl dX10_isAsTold_143 ?_
              refine GX_iadd hC dX10_isAsTold_146 ?_
              obtain ⟨x46, e47, h48⟩ := ob h45
              refine GX_ldA hC e47 al_64 dX10_isAsTold_147 ?_
              refine GX_iconst hC 1 dX10_isAsTold_148 rfl ?_
              refine GX_icmp_ne_N hC 156 dX10_isAsTold_149 (by decide) (fun q => ?_) (fun q => ?_)
              · skip
                exact hc43 (cdT q h48)
              · skip
                exact hc44 (cdF q h48)
            · skip
              have h49 := ifN q e40
              exact hc44 (oi h49)
          exact GX_zretR hC c39 hR dX10_isAsTold_157 (oi h41)
        · skip
          have h50 := ifN q h37
          obtain ⟨c51, e52, h53⟩ := ob h50
          suffices hJ54 : GX Γ LAY 0 0 [some (.ref (gad Γ 62))] [.int (bI c51)] m1 190 by
            have hc55 : true = c51 → GX Γ LAY 0 0 [some (.ref (gad Γ 62))] [] m1 185 := by
              intro q
              subst q
              refine GX_iconst hC (bI true) dX10_isAsTold_185 rfl ?_
              refine GX_goto hC 190 dX10_isAsTold_186 (by decide) ?_
              exact hJ54
            have hc56 : false = c51 → GX Γ LAY 0 0 [some (.ref (gad Γ 62))] [] m1 189 := by
              intro q
              subst q
              refine GX_iconst hC (bI false) dX10_isAsTold_189 rfl ?_
              exact hJ54
            refine GX_aload_n hC dX10_isAsTold_158 rfl ?_
            refine GX_getI hC fkX10_216 ol_62 rfl dX10_isAsTold_159 ?_
            refine GX_bipush hC 7 dX10_isAsTold_162 rfl ?_
            refine GX_icmp_ne_P hC 185 dX10_isAsTold_164 (by decide) (fun q => ?_) (fun q => ?_)
            · skip
              have h57 := ifP q e52
              exact hc55 (oi h57)
            · skip
              have h58 := ifN q e52
              refine GX_aload_n hC dX10_isAsTold_167 rfl ?_
              refine GX_getR hC fkX10_25 ol_62 rfl dX10_isAsTold_168 ?_
              refine GX_aload_n hC dX10_isAsTold_171 rfl ?_
              refine GX_getI hC fkX10_222 ol_62 rfl dX10_isAsTold_172 ?_
              obtain ⟨x59, e60, h61⟩ := ob h58
              refine GX_ldA hC e60 al_68 dX10_isAsTold_175 ?_
              refine GX_aload_n hC dX10_isAsTold_176 rfl ?_
              refine GX_getI hC fkX10_219 ol_62 rfl dX10_isAsTold_177 ?_
              refine GX_iconst hC 1 dX10_isAsTold_180 rfl ?_
              refine GX_iadd hC dX10_isAsTold_181 ?_
              refine GX_icmp_ne_N hC 189 dX10_isAsTold_182 (by decide) (fun q => ?_) (fun q => ?_)
              · skip
                exact hc55 (cdT q h61)
              · skip
                exact hc56 (cdF q h61)
          exact GX_zretR hC c51 hR dX10_isAsTold_190 (oi h53)
  refine GX_aload_n hC dX10_isAsTold_0 rfl ?_
  refine GX_getI hC fkX10_216 ol_62 rfl dX10_isAsTold_1 ?_
  refine GX_iconst hC 1 dX10_isAsTold_4 rfl ?_
  refine GX_icmp_eq_P hC 16 dX10_isAsTold_5 (by decide) (fun q => ?_) (fun q => ?_)
  · skip
    have h62 := ifP q e3
    exact hc5 (oi h62)
  · skip
    have h63 := ifN q e3
    refine GX_aload_n hC dX10_isAsTold_8 rfl ?_
    refine GX_getI hC fkX10_216 ol_62 rfl dX10_isAsTold_9 ?_
    refine GX_iconst hC 4 dX10_isAsTold_12 rfl ?_
    refine GX_icmp_ne_N hC 40 dX10_isAsTold_13 (by decide) (fun q => ?_) (fun q => ?_)
    · skip
      exact hc5 (cdT q h63)
    · skip
      exact hc16 (cdF q h63)
set_option maxRecDepth 100000 in
set_option maxHeartbeats 4000000 in
theorem C_M_changeOwners {l : Launch} {m1 : MI} {mr : MI}  (hf : M_changeOwners m1 = some mr) : Cn l yX10_changeOwners cX10_changeOwners 1 none 1 LAY (fun ad => .ref (ad 62) :: []) m1 (fun _ => none) mr := by
  refine Cn.of (fun ad => [some (.ref (ad 62))]) (by decide +kernel) (fun _ => rfl) (fun _ => Nat.le_of_ble_eq_true rfl) (fun Γ hl hC hR hk => ?_)
  subst hl
  replace hC : CX Γ cX10_changeOwners RX10 LAY 1 1 := hC
  dsimp only [M_changeOwners] at hf
  refine GX_aload_n hC dX10_changeOwners_0 rfl ?_
  obtain ⟨m2, e3, h4⟩ := ob hf
  refine GX_callV_v (st := []) hC (C_M_takeNow e3) okX10_takeNow lkX10_204 ol_62 rfl rfl (Nat.le_of_ble_eq_true rfl) (Nat.le_of_ble_eq_true rfl) hk rfl (Nat.le_of_ble_eq_true rfl) dX10_changeOwners_1 ?_
  obtain ⟨o5, e6, h7⟩ := ob h4
  suffices hJ9 : ∀ (m8 : MI), m8 = o5 → GX Γ LAY 0 0 [some (.ref (gad Γ 62))] [] m8 35 by
    obtain ⟨c10, e11, h12⟩ := ob e6
    have hc13 : true = c10 → GX Γ LAY 0 0 [some (.ref (gad Γ 62))] [] m2 20 := by
      intro q
      have h14 := ifT q.symm h12
      refine GX_aload_n hC dX10_changeOwners_20 rfl ?_
      refine GX_getR hC fkX10_28 ol_62 rfl dX10_changeOwners_21 ?_
      refine GX_aload_n hC dX10_changeOwners_24 rfl ?_
      refine GX_getI hC fkX10_222 ol_62 rfl dX10_changeOwners_25 ?_
      refine GX_aload_n hC dX10_changeOwners_28 rfl ?_
      refine GX_getI hC fkX10_219 ol_62 rfl dX10_changeOwners_29 ?_
      refine GX_iconst hC 1 dX10_changeOwners_32 rfl ?_
      refine GX_iadd hC dX10_changeOwners_33 ?_
      obtain ⟨m15, e16, h17⟩ := ob h14
      refine GX_stA hC e16 al_69 dX10_changeOwners_34 ?_
      exact (hJ9 _ (oi h17))
    have hc18 : false = c10 → GX Γ LAY 0 0 [some (.ref (gad Γ 62))] [] m2 35 := by
      intro q
      have h19 := ifF q.symm h12
      exact (hJ9 _ (oi h19))
    refine GX_aload_n hC dX10_changeOwners_4 rfl ?_
    refine GX_getI hC fkX10_216 ol_62 rfl dX10_changeOwners_5 ?_
    refine GX_iconst hC 1 dX10_changeOwners_8 rfl ?_
    refine GX_icmp_eq_P hC 20 dX10_changeOwners_9 (by decide) (fun q => ?_) (fun q => ?_)
    · skip
      have h20 := ifP q e11
      exact hc13 (oi h20)
    · skip
      have h21 := ifN q e11
      refine GX_aload_n hC dX10_changeOwners_12 rfl ?_
      refine GX_getI hC fkX10_216 ol_62 rfl dX10_changeOwners_13 ?_
      refine GX_iconst hC 4 dX10_changeOwners_16 rfl ?_
      refine GX_icmp_ne_N hC 35 dX10_changeOwners_17 (by decide) (fun q => ?_) (fun q => ?_)
      · skip
        exact hc13 (cdT q h21)
      · skip
        exact hc18 (cdF q h21)
  intro m8 q22
  subst q22
  obtain ⟨o23, e24, h25⟩ := ob h7
  suffices hJ27 : ∀ (m26 : MI), m26 = o23 → GX Γ LAY 0 0 [some (.ref (gad Γ 62))] [] m26 79 by
    refine GX_aload_n hC dX10_changeOwners_35 rfl ?_
    refine GX_getI hC fkX10_216 ol_62 rfl dX10_changeOwners_36 ?_
    refine GX_iconst hC 2 dX10_changeOwners_39 rfl ?_
    refine GX_icmp_ne_N hC 79 dX10_changeOwners_40 (by decide) (fun q => ?_) (fun q => ?_)
    · skip
      have h28 := ifP q e24
      refine GX_aload_n hC dX10_changeOwners_43 rfl ?_
      refine GX_getR hC fkX10_28 ol_62 rfl dX10_changeOwners_44 ?_
      refine GX_aload_n hC dX10_changeOwners_47 rfl ?_
      refine GX_getI hC fkX10_222 ol_62 rfl dX10_changeOwners_48 ?_
      refine GX_aload_n hC dX10_changeOwners_51 rfl ?_
      refine GX_getR hC fkX10_25 ol_62 rfl dX10_changeOwners_52 ?_
      refine GX_aload_n hC dX10_changeOwners_55 rfl ?_
      refine GX_getI hC fkX10_225 ol_62 rfl dX10_changeOwners_56 ?_
      obtain ⟨x29, e30, h31⟩ := ob h28
      refine GX_ldA hC e30 al_68 dX10_changeOwners_59 ?_
      obtain ⟨m32, e33, h34⟩ := ob h31
      refine GX_stA hC e33 al_69 dX10_changeOwners_60 ?_
      refine GX_aload_n hC dX10_changeOwners_61 rfl ?_
      refine GX_getR hC fkX10_28 ol_62 rfl dX10_changeOwners_62 ?_
      refine GX_aload_n hC dX10_changeOwners_65 rfl ?_
      refine GX_getI hC fkX10_225 ol_62 rfl dX10_changeOwners_66 ?_
      refine GX_aload_n hC dX10_changeOwners_69 rfl ?_
      refine GX_getR hC fkX10_25 ol_62 rfl dX10_changeOwners_70 ?_
      refine GX_aload_n hC dX10_changeOwners_73 rfl ?_
      refine GX_getI hC fkX10_222 ol_62 rfl dX10_changeOwners_74 ?_
      obtain ⟨x35, e36, h37⟩ := ob h34
      refine GX_ldA hC e36 al_68 dX10_changeOwners_77 ?_
      obtain ⟨m38, e39, h40⟩ := ob h37
      refine GX_stA hC e39 al_69 dX10_changeOwners_78 ?_
      exact (hJ27 _ (oi h40))
    · skip
      have h41 := ifN q e24
      exact (hJ27 _ (oi h41))
  intro m26 q42
  subst q42
  obtain ⟨o43, e44, h45⟩ := ob h25
  suffices hJ47 : ∀ (m46 : MI), m46 = o43 → GX Γ LAY 0 0 [some (.ref (gad Γ 62))] [] m46 141 by
    refine GX_aload_n hC dX10_changeOwners_79 rfl ?_
    refine GX_getI hC fkX10_216 ol_62 rfl dX10_changeOwners_80 ?_
    refine GX_iconst hC 3 dX10_changeOwners_83 rfl ?_
    refine GX_icmp_ne_N hC 141 dX10_changeOwners_84 (by decide) (fun q => ?_) (fun q => ?_)
    · skip
      have h48 := ifP q e44
      refine GX_aload_n hC dX10_changeOwners_87 rfl ?_
      refine GX_getR hC fkX10_28 ol_62 rfl dX10_changeOwners_88 ?_
      refine GX_aload_n hC dX10_changeOwners_91 rfl ?_
      refine GX_getI hC fkX10_225 ol_62 rfl dX10_changeOwners_92 ?_
      refine GX_aload_n hC dX10_changeOwners_95 rfl ?_
      refine GX_getR hC fkX10_25 ol_62 rfl dX10_changeOwners_96 ?_
      refine GX_aload_n hC dX10_changeOwners_99 rfl ?_
      refine GX_getI hC fkX10_222 ol_62 rfl dX10_changeOwners_100 ?_
      obtain ⟨x49, e50, h51⟩ := ob h48
      refine GX_ldA hC e50 al_68 dX10_changeOwners_103 ?_
      obtain ⟨m52, e53, h54⟩ := ob h51
      refine GX_stA hC e53 al_69 dX10_changeOwners_104 ?_
      refine GX_aload_n hC dX10_changeOwners_105 rfl ?_
      refine GX_getR hC fkX10_28 ol_62 rfl dX10_changeOwners_106 ?_
      refine GX_aload_n hC dX10_changeOwners_109 rfl ?_
      refine GX_getI hC fkX10_228 ol_62 rfl dX10_changeOwners_110 ?_
      refine GX_aload_n hC dX10_changeOwners_113 rfl ?_
      refine GX_getR hC fkX10_25 ol_62 rfl dX10_changeOwners_114 ?_
      refine GX_aload_n hC dX10_changeOwners_117 rfl ?_
      refine GX_getI hC fkX10_225 ol_62 rfl dX10_changeOwners_118 ?_
      obtain ⟨x55, e56, h57⟩ := ob h54
      refine GX_ldA hC e56 al_68 dX10_changeOwners_121 ?_
      obtain ⟨m58, e59, h60⟩ := ob h57
      refine GX_stA hC e59 al_69 dX10_changeOwners_122 ?_
      refine GX_aload_n hC dX10_changeOwners_123 rfl ?_
      refine GX_getR hC fkX10_28 ol_62 rfl dX10_changeOwners_124 ?_
      refine GX_aload_n hC dX10_changeOwners_127 rfl ?_
      refine GX_getI hC fkX10_222 ol_62 rfl dX10_changeOwners_128 ?_
      refine GX_aload_n hC dX10_changeOwners_131 rfl ?_
      refine GX_getR hC fkX10_25 ol_62 rfl dX10_changeOwners_132 ?_
      refine GX_aload_n hC dX10_changeOwners_135 rfl ?_
      refine GX_getI hC fkX10_228 ol_62 rfl dX10_changeOwners_136 ?_
      obtain ⟨x61, e62, h63⟩ := ob h60
      refine GX_ldA hC e62 al_68 dX10_changeOwners_139 ?_
      obtain ⟨m64, e65, h66⟩ := ob h63
      refine GX_stA hC e65 al_69 dX10_changeOwners_140 ?_
      exact (hJ47 _ (oi h66))
    · skip
      have h67 := ifN q e44
      exact (hJ47 _ (oi h67))
  intro m46 q68
  subst q68
  obtain ⟨o69, e70, h71⟩ := ob h45
  suffices hJ73 : ∀ (m72 : MI), m72 = o69 → GX Γ LAY 0 0 [some (.ref (gad Γ 62))] [] m72 169 by
    obtain ⟨c74, e75, h76⟩ := ob e70
    have hc77 : true = c74 → GX Γ LAY 0 0 [some (.ref (gad Γ 62))] [] m46 159 := by
      intro q
      have h78 := ifT q.symm h76
      refine GX_aload_n hC dX10_changeOwners_159 rfl ?_
      refine GX_getR hC fkX10_28 ol_62 rfl dX10_changeOwners_160 ?_
      refine GX_aload_n hC dX10_changeOwners_163 rfl ?_
      refine GX_getI hC fkX10_222 ol_62 rfl dX10_changeOwners_164 ?_
      refine GX_iconst hC 0 dX10_changeOwners_167 rfl ?_
      obtain ⟨m79, e80, h81⟩ := ob h78
      refine GX_stA hC e80 al_69 dX10_changeOwners_168 ?_
      exact (hJ73 _ (oi h81))
    have hc82 : false = c74 → GX Γ LAY 0 0 [some (.ref (gad Γ 62))] [] m46 169 := by
      intro q
      have h83 := ifF q.symm h76
      exact (hJ73 _ (oi h83))
    refine GX_aload_n hC dX10_changeOwners_141 rfl ?_
    refine GX_getI hC fkX10_216 ol_62 rfl dX10_changeOwners_142 ?_
    refine GX_bipush hC 6 dX10_changeOwners_145 rfl ?_
    refine GX_icmp_eq_P hC 159 dX10_changeOwners_147 (by decide) (fun q => ?_) (fun q => ?_)
    · skip
      have h84 := ifP q e75
      exact hc77 (oi h84)
    · skip
      have h85 := ifN q e75
      refine GX_aload_n hC dX10_changeOwners_150 rfl ?_
      refine GX_getI hC fkX10_216 ol_62 rfl dX10_changeOwners_151 ?_
      refine GX_bipush hC 7 dX10_changeOwners_154 rfl ?_
      refine GX_icmp_ne_N hC 169 dX10_changeOwners_156 (by decide) (fun q => ?_) (fun q => ?_)
      · skip
        exact hc77 (cdT q h85)
      · skip
        exact hc82 (cdF q h85)
  intro m72 q86
  subst q86
  exact GX_vretW hC hR dX10_changeOwners_169 (oi h71)
set_option maxRecDepth 100000 in
set_option maxHeartbeats 4000000 in
theorem C_M_add {l : Launch} {p1 : Int32} {n2 : Int32} {m3 : MI} {mr : MI}  (hf : M_add p1 n2 m3 = some mr) : Cn l yX10_add cX10_add 4 none 0 LAY (fun ad => .ref (ad 62) :: [.int p1, .int n2]) m3 (fun _ => none) mr := by
  refine Cn.of (fun ad => [some (.ref (ad 62)), some (.int p1), some (.int n2), none]) (by decide +kernel) (fun _ => rfl) (fun _ => Nat.le_of_ble_eq_true rfl) (fun Γ hl hC hR hk => ?_)
  subst hl
  replace hC : CX Γ cX10_add RX10 LAY 0 4 := hC
  dsimp only [M_add] at hf
  refine GX_aload_n hC dX10_add_0 rfl ?_
  refine GX_getR hC fkX10_46 ol_62 rfl dX10_add_1 ?_
  refine GX_iload_n hC dX10_add_4 rfl ?_
  obtain ⟨x4, e5, h6⟩ := ob hf
  refine GX_ldA hC e5 al_75 dX10_add_5 ?_
  refine GX_iload_n hC dX10_add_6 rfl ?_
  refine GX_iadd hC dX10_add_7 ?_
  obtain ⟨v7, e8, h9⟩ := ob h6
  refine GX_nm (oi e8) ?_
  refine GX_istore_n hC [some (.ref (gad Γ 62)), some (.int p1), some (.int n2), some (.int v7)] dX10_add_8 (by decide) rfl rfl ?_
  refine GX_aload_n hC dX10_add_9 rfl ?_
  refine GX_getR hC fkX10_46 ol_62 rfl dX10_add_10 ?_
  refine GX_iload_n hC dX10_add_13 rfl ?_
  obtain ⟨x10, e11, h12⟩ := ob h9
  suffices hJ13 : GX Γ LAY 0 0 [some (.ref (gad Γ 62)), some (.int p1), some (.int n2), some (.int v7)] [.int x10, .int p1, .ref (gad Γ 75)] m3 28 by
    refine GX_iload_n hC dX10_add_14 rfl ?_
    refine GX_sipush hC 999 dX10_add_15 rfl ?_
    refine GX_icmp_le_N hC 27 dX10_add_18 (by decide) (fun q => ?_) (fun q => ?_)
    · skip
      have h14 := ifP q e11
      refine GX_sipush hC 999 dX10_add_21 rfl ?_
      refine GX_goto hC 28 dX10_add_24 (by decide) ?_
      exact GX_nm (oi h14) hJ13
    · skip
      have h15 := ifN q e11
      refine GX_iload_n hC dX10_add_27 rfl ?_
      exact GX_nm (oi h15) hJ13
  obtain ⟨m16, e17, h18⟩ := ob h12
  refine GX_stA hC e17 al_75 dX10_add_28 ?_
  exact GX_vretW hC hR dX10_add_29 (oi h18)
set_option maxRecDepth 100000 in
set_option maxHeartbeats 4000000 in
theorem C_M_pay {l : Launch} {m1 : MI} {mr : MI}  (hf : M_pay m1 = some mr) : Cn l yX10_pay cX10_pay 3 none 1 LAY (fun ad => .ref (ad 62) :: []) m1 (fun _ => none) mr := by
  refine Cn.of (fun ad => [some (.ref (ad 62)), none, none]) (by decide +kernel) (fun _ => rfl) (fun _ => Nat.le_of_ble_eq_true rfl) (fun Γ hl hC hR hk => ?_)
  subst hl
  replace hC : CX Γ cX10_pay RX10 LAY 1 3 := hC
  dsimp only [M_pay] at hf
  refine GX_iconst hC 0 dX10_pay_0 rfl ?_
  refine GX_istore_n hC [some (.ref (gad Γ 62)), some (.int 0), none] dX10_pay_1 (by decide) rfl rfl ?_
  obtain ⟨o2, e3, h4⟩ := ob hf
  suffices hJ5 : ∀ (m8 : MI), m8 = o2 → GX Γ LAY 0 0 [some (.ref (gad Γ 62)), none, none] [] m8 25 by
    refine lp_walk (P := fun s => GX Γ LAY 0 0 [some (.ref (gad Γ 62)), some (.int s.1), none] [] s.2 2) (fun s x hx5 hI5 hO5 => ?_) _ _ e3
    obtain ⟨p6, m7⟩ := s
    show GX Γ LAY 0 0 [some (.ref (gad Γ 62)), some (.int p6), none] [] m7 2
    dsimp only [M_pay_s1] at hx5
    refine GX_iload_n hC dX10_pay_2 rfl ?_
    refine GX_iconst hC 3 dX10_pay_3 rfl ?_
    refine GX_icmp_ge_N hC 25 dX10_pay_4 (by decide) (fun q => ?_) (fun q => ?_)
    · skip
      have h9 := ifP q hx5
      refine GX_aload_n hC dX10_pay_7 rfl ?_
      refine GX_getR hC fkX10_46 ol_62 rfl dX10_pay_8 ?_
      refine GX_iload_n hC dX10_pay_11 rfl ?_
      refine GX_aload_n hC dX10_pay_12 rfl ?_
      refine GX_getR hC fkX10_16 ol_62 rfl dX10_pay_13 ?_
      refine GX_iload_n hC dX10_pay_16 rfl ?_
      obtain ⟨x10, e11, h12⟩ := ob h9
      refine GX_ldA hC e11 al_65 dX10_pay_17 ?_
      obtain ⟨m13, e14, h15⟩ := ob h12
      refine GX_stA hC e14 al_75 dX10_pay_18 ?_
      obtain ⟨i16, e17, h18⟩ := ob h15
      refine GX_iinc hC i16 [some (.ref (gad Γ 62)), some (.int i16), none] dX10_pay_19 rfl (oi e17) (by decide) rfl rfl ?_
      refine GX_goto hC 2 dX10_pay_22 (by decide) ?_
      exact hI5 _ (oi h18).symm
    · skip
      have h19 := ifN q hx5
      exact GX.le (hJ5 _ (hO5 _ (oi h19).symm)) ⟨rfl, trivial⟩
  intro m8 q20
  subst q20
  refine GX_bipush hC 10 dX10_pay_25 rfl ?_
  refine GX_aload_n hC dX10_pay_27 rfl ?_
  refine GX_getR hC fkX10_7 ol_62 rfl dX10_pay_28 ?_
  refine GX_aload_n hC dX10_pay_31 rfl ?_
  refine GX_getI hC fkX10_222 ol_62 rfl dX10_pay_32 ?_
  obtain ⟨x21, e22, h23⟩ := ob h4
  refine GX_ldA hC e22 al_63 dX10_pay_35 ?_
  refine GX_imul hC dX10_pay_36 ?_
  refine GX_aload_n hC dX10_pay_37 rfl ?_
  refine GX_getI hC fkX10_228 ol_62 rfl dX10_pay_38 ?_
  refine GX_iadd hC dX10_pay_41 ?_
  obtain ⟨price24, e25, h26⟩ := ob h23
  refine GX_nm (oi e25) ?_
  refine GX_istore_n hC [some (.ref (gad Γ 62)), some (.int price24), none] dX10_pay_42 (by decide) rfl rfl ?_
  obtain ⟨o27, e28, h29⟩ := ob h26
  suffices hJ31 : ∀ (m30 : MI), m30 = o27 → GX Γ LAY 0 0 [some (.ref (gad Γ 62)), some (.int price24), none] [] m30 113 by
    obtain ⟨c32, e33, h34⟩ := ob e28
    have hc35 : true = c32 → GX Γ LAY 0 0 [some (.ref (gad Γ 62)), some (.int price24), none] [] m8 59 := by
      intro q
      have h36 := ifT q.symm h34
      obtain ⟨x37, e38, h39⟩ := ob h36
      suffices hJ40 : GX Γ LAY 0 0 [some (.ref (gad Γ 62)), some (.int price24), none] [.int x37] m8 74 by
        refine GX_aload_n hC dX10_pay_59 rfl ?_
        refine GX_getI hC fkX10_216 ol_62 rfl dX10_pay_60 ?_
        refine GX_iconst hC 4 dX10_pay_63 rfl ?_
        refine GX_icmp_ne_N hC 73 dX10_pay_64 (by decide) (fun q => ?_) (fun q => ?_)
        · skip
          have h41 := ifP q e38
          refine GX_iconst hC 2 dX10_pay_67 rfl ?_
          refine GX_iload_n hC dX10_pay_68 rfl ?_
          refine GX_imul hC dX10_pay_69 ?_
          refine GX_goto hC 74 dX10_pay_70 (by decide) ?_
          exact GX_nm (oi h41) hJ40
        · skip
          have h42 := ifN q e38
          refine GX_iload_n hC dX10_pay_73 rfl ?_
          exact GX_nm (oi h42) hJ40
      refine GX_istore_n hC [some (.ref (gad Γ 62)), some (.int price24), some (.int x37)] dX10_pay_74 (by decide) rfl rfl ?_
      refine GX_aload_n hC dX10_pay_75 rfl ?_
      refine GX_aload_n hC dX10_pay_76 rfl ?_
      refine GX_getI hC fkX10_219 ol_62 rfl dX10_pay_77 ?_
      refine GX_iload_n hC dX10_pay_80 rfl ?_
      refine GX_ineg hC dX10_pay_81 ?_
      obtain ⟨m43, e44, h45⟩ := ob h39
      refine GX_callV_v (st := []) hC (C_M_add e44) okX10_add lkX10_231 ol_62 rfl rfl (Nat.le_of_ble_eq_true rfl) (Nat.le_of_ble_eq_true rfl) hk rfl (Nat.le_of_ble_eq_true rfl) dX10_pay_82 ?_
      obtain ⟨o46, e47, h48⟩ := ob h45
      suffices hJ50 : ∀ (m49 : MI), m49 = o46 → GX Γ LAY 0 0 [some (.ref (gad Γ 62)), some (.int price24), some (.int x37)] [] m49 113 by
        refine GX_aload_n hC dX10_pay_85 rfl ?_
        refine GX_getR hC fkX10_25 ol_62 rfl dX10_pay_86 ?_
        refine GX_aload_n hC dX10_pay_89 rfl ?_
        refine GX_getI hC fkX10_222 ol_62 rfl dX10_pay_90 ?_
        obtain ⟨x51, e52, h53⟩ := ob e47
        refine GX_ldA hC e52 al_68 dX10_pay_93 ?_
        refine GX_if_le_N hC 113 dX10_pay_94 (by decide) (fun q => ?_) (fun q => ?_)
        · skip
          have h54 := ifP q h53
          refine GX_aload_n hC dX10_pay_97 rfl ?_
          refine GX_aload_n hC dX10_pay_98 rfl ?_
          refine GX_getR hC fkX10_25 ol_62 rfl dX10_pay_99 ?_
          refine GX_aload_n hC dX10_pay_102 rfl ?_
          refine GX_getI hC fkX10_222 ol_62 rfl dX10_pay_103 ?_
          obtain ⟨x55, e56, h57⟩ := ob h54
          refine GX_ldA hC e56 al_68 dX10_pay_106 ?_
          refine GX_iconst hC 1 dX10_pay_107 rfl ?_
          refine GX_isub hC dX10_pay_108 ?_
          refine GX_iload_n hC dX10_pay_109 rfl ?_
          obtain ⟨m58, e59, h60⟩ := ob h57
          refine GX_callV_v (st := []) hC (C_M_add e59) okX10_add lkX10_231 ol_62 rfl rfl (Nat.le_of_ble_eq_true rfl) (Nat.le_of_ble_eq_true rfl) hk rfl (Nat.le_of_ble_eq_true rfl) dX10_pay_110 ?_
          exact (hJ50 _ (oi h60))
        · skip
          have h61 := ifN q h53
          exact (hJ50 _ (oi h61))
      intro m49 q62
      subst q62
      exact GX.le (hJ31 _ (oi h48)) ⟨rfl, ⟨rfl, trivial⟩⟩
    have hc63 : false = c32 → GX Γ LAY 0 0 [some (.ref (gad Γ 62)), some (.int price24), none] [] m8 113 := by
      intro q
      have h64 := ifF q.symm h34
      exact (hJ31 _ (oi h64))
    refine GX_aload_n hC dX10_pay_43 rfl ?_
    refine GX_getI hC fkX10_216 ol_62 rfl dX10_pay_44 ?_
    refine GX_iconst hC 1 dX10_pay_47 rfl ?_
    refine GX_icmp_eq_P hC 59 dX10_pay_48 (by decide) (fun q => ?_) (fun q => ?_)
    · skip
      have h65 := ifP q e33
      exact hc35 (oi h65)
    · skip
      have h66 := ifN q e33
      refine GX_aload_n hC dX10_pay_51 rfl ?_
      refine GX_getI hC fkX10_216 ol_62 rfl dX10_pay_52 ?_
      refine GX_iconst hC 4 dX10_pay_55 rfl ?_
      refine GX_icmp_ne_N hC 113 dX10_pay_56 (by decide) (fun q => ?_) (fun q => ?_)
      · skip
        exact hc35 (cdT q h66)
      · skip
        exact hc63 (cdF q h66)
  intro m30 q67
  subst q67
  obtain ⟨o68, e69, h70⟩ := ob h29
  suffices hJ72 : ∀ (m71 : MI), m71 = o68 → GX Γ LAY 0 0 [some (.ref (gad Γ 62)), some (.int price24), none] [] m71 136 by
    refine GX_aload_n hC dX10_pay_113 rfl ?_
    refine GX_getI hC fkX10_216 ol_62 rfl dX10_pay_114 ?_
    refine GX_iconst hC 5 dX10_pay_117 rfl ?_
    refine GX_icmp_ne_N hC 136 dX10_pay_118 (by decide) (fun q => ?_) (fun q => ?_)
    · skip
      have h73 := ifP q e69
      refine GX_aload_n hC dX10_pay_121 rfl ?_
      refine GX_aload_n hC dX10_pay_122 rfl ?_
      refine GX_getI hC fkX10_219 ol_62 rfl dX10_pay_123 ?_
      refine GX_bipush hC (-5) dX10_pay_126 rfl ?_
      refine GX_aload_n hC dX10_pay_128 rfl ?_
      refine GX_getI hC fkX10_228 ol_62 rfl dX10_pay_129 ?_
      refine GX_imul hC dX10_pay_132 ?_
      obtain ⟨m74, e75, h76⟩ := ob h73
      refine GX_callV_v (st := []) hC (C_M_add e75) okX10_add lkX10_231 ol_62 rfl rfl (Nat.le_of_ble_eq_true rfl) (Nat.le_of_ble_eq_true rfl) hk rfl (Nat.le_of_ble_eq_true rfl) dX10_pay_133 ?_
      exact (hJ72 _ (oi h76))
    · skip
      have h77 := ifN q e69
      exact (hJ72 _ (oi h77))
  intro m71 q78
  subst q78
  obtain ⟨o79, e80, h81⟩ := ob h70
  suffices hJ83 : ∀ (m82 : MI), m82 = o79 → GX Γ LAY 0 0 [some (.ref (gad Γ 62)), some (.int price24), none] [] m82 156 by
    refine GX_aload_n hC dX10_pay_136 rfl ?_
    refine GX_getI hC fkX10_216 ol_62 rfl dX10_pay_137 ?_
    refine GX_bipush hC 7 dX10_pay_140 rfl ?_
    refine GX_icmp_ne_N hC 156 dX10_pay_142 (by decide) (fun q => ?_) (fun q => ?_)
    · skip
      have h84 := ifP q e80
      refine GX_aload_n hC dX10_pay_145 rfl ?_
      refine GX_aload_n hC dX10_pay_146 rfl ?_
      refine GX_getI hC fkX10_219 ol_62 rfl dX10_pay_147 ?_
      refine GX_iload_n hC dX10_pay_150 rfl ?_
      refine GX_iconst hC 2 dX10_pay_151 rfl ?_
      refine GX_idiv hC dX10_pay_152 (by decide) ?_
      obtain ⟨m85, e86, h87⟩ := ob h84
      refine GX_callV_v (st := []) hC (C_M_add e86) okX10_add lkX10_231 ol_62 rfl rfl (Nat.le_of_ble_eq_true rfl) (Nat.le_of_ble_eq_true rfl) hk rfl (Nat.le_of_ble_eq_true rfl) dX10_pay_153 ?_
      exact (hJ83 _ (oi h87))
    · skip
      have h88 := ifN q e80
      exact (hJ83 _ (oi h88))
  intro m82 q89
  subst q89
  exact GX_vretW hC hR dX10_pay_156 (oi h81)
set_option maxRecDepth 100000 in
set_option maxHeartbeats 4000000 in
theorem C_M_canBeDone {l : Launch} {m1 : MI} {r0 : Bool} {mr : MI}  (hf : M_canBeDone m1 = some (r0, mr)) : Cn l yX10_canBeDone cX10_canBeDone 3 (some .boolean) 3 LAY (fun ad => .ref (ad 62) :: []) m1 (fun _ => some (.int (bI r0))) mr := by
  refine Cn.of (fun ad => [some (.ref (ad 62)), none, none]) (by decide +kernel) (fun _ => rfl) (fun _ => Nat.le_of_ble_eq_true rfl) (fun Γ hl hC hR hk => ?_)
  subst hl
  replace hC : CX Γ cX10_canBeDone RX10 LAY 3 3 := hC
  dsimp only [M_canBeDone] at hf
  refine GX_aload_n hC dX10_canBeDone_0 rfl ?_
  obtain ⟨b2, e3, h4⟩ := ob hf
  refine GX_callV_i (st := []) hC (C_M_isAsTold e3) okX10_isAsTold lkX10_234 ol_62 rfl rfl (Nat.le_of_ble_eq_true rfl) (Nat.le_of_ble_eq_true rfl) hk rfl (Nat.le_of_ble_eq_true rfl) dX10_canBeDone_1 ?_
  refine GX_ifb_ne hC 9 dX10_canBeDone_4 (by decide) (fun q => ?_) (fun q => ?_)
  · skip
    have h5 := ifT q h4
    refine GX_aload_n hC dX10_canBeDone_9 rfl ?_
    obtain ⟨m6, e7, h8⟩ := ob h5
    refine GX_callV_v (st := []) hC (C_M_changeOwners e7) okX10_changeOwners lkX10_237 ol_62 rfl rfl (Nat.le_of_ble_eq_true rfl) (Nat.le_of_ble_eq_true rfl) hk rfl (Nat.le_of_ble_eq_true rfl) dX10_canBeDone_10 ?_
    obtain ⟨x9, e10, h11⟩ := ob h8
    suffices hJ12 : GX Γ LAY 0 0 [some (.ref (gad Γ 62)), none, none] [.int x9] m6 42 by
      refine GX_aload_n hC dX10_canBeDone_13 rfl ?_
      refine GX_getI hC fkX10_216 ol_62 rfl dX10_canBeDone_14 ?_
      refine GX_iconst hC 5 dX10_canBeDone_17 rfl ?_
      refine GX_icmp_ne_N hC 41 dX10_canBeDone_18 (by decide) (fun q => ?_) (fun q => ?_)
      · skip
        have h13 := ifP q e10
        refine GX_aload_n hC dX10_canBeDone_21 rfl ?_
        refine GX_getR hC fkX10_13 ol_62 rfl dX10_canBeDone_22 ?_
        refine GX_bipush hC 6 dX10_canBeDone_25 rfl ?_
        refine GX_aload_n hC dX10_canBeDone_27 rfl ?_
        refine GX_getI hC fkX10_222 ol_62 rfl dX10_canBeDone_28 ?_
        refine GX_imul hC dX10_canBeDone_31 ?_
        refine GX_aload_n hC dX10_canBeDone_32 rfl ?_
        refine GX_getI hC fkX10_225 ol_62 rfl dX10_canBeDone_33 ?_
        refine GX_iadd hC dX10_canBeDone_36 ?_
        obtain ⟨x14, e15, h16⟩ := ob h13
        refine GX_ldA hC e15 al_64 dX10_canBeDone_37 ?_
        refine GX_goto hC 42 dX10_canBeDone_38 (by decide) ?_
        exact GX_nm (oi h16) hJ12
      · skip
        have h17 := ifN q e10
        refine GX_iconst hC 0 dX10_canBeDone_41 rfl ?_
        exact GX_nm (oi h17) hJ12
    refine GX_istore_n hC [some (.ref (gad Γ 62)), some (.int x9), none] dX10_canBeDone_42 (by decide) rfl rfl ?_
    obtain ⟨o18, e19, h20⟩ := ob h11
    suffices hJ22 : ∀ (m21 : MI), m21 = o18 → GX Γ LAY 0 0 [some (.ref (gad Γ 62)), some (.int x9), none] [] m21 87 by
      refine GX_aload_n hC dX10_canBeDone_43 rfl ?_
      refine GX_getI hC fkX10_216 ol_62 rfl dX10_canBeDone_44 ?_
      refine GX_iconst hC 5 dX10_canBeDone_47 rfl ?_
      refine GX_icmp_ne_N hC 87 dX10_canBeDone_48 (by decide) (fun q => ?_) (fun q => ?_)
      · skip
        have h23 := ifP q e19
        refine GX_aload_n hC dX10_canBeDone_51 rfl ?_
        refine GX_getR hC fkX10_13 ol_62 rfl dX10_canBeDone_52 ?_
        refine GX_bipush hC 6 dX10_canBeDone_55 rfl ?_
        refine GX_aload_n hC dX10_canBeDone_57 rfl ?_
        refine GX_getI hC fkX10_222 ol_62 rfl dX10_canBeDone_58 ?_
        refine GX_imul hC dX10_canBeDone_61 ?_
        refine GX_aload_n hC dX10_canBeDone_62 rfl ?_
        refine GX_getI hC fkX10_225 ol_62 rfl dX10_canBeDone_63 ?_
        refine GX_iadd hC dX10_canBeDone_66 ?_
        refine GX_iconst hC 2 dX10_canBeDone_67 rfl ?_
        obtain ⟨m24, e25, h26⟩ := ob h23
        refine GX_stA hC e25 al_64 dX10_canBeDone_68 ?_
        refine GX_aload_n hC dX10_canBeDone_69 rfl ?_
        refine GX_getR hC fkX10_13 ol_62 rfl dX10_canBeDone_70 ?_
        refine GX_bipush hC 6 dX10_canBeDone_73 rfl ?_
        refine GX_aload_n hC dX10_canBeDone_75 rfl ?_
        refine GX_getI hC fkX10_225 ol_62 rfl dX10_canBeDone_76 ?_
        refine GX_imul hC dX10_canBeDone_79 ?_
        refine GX_aload_n hC dX10_canBeDone_80 rfl ?_
        refine GX_getI hC fkX10_222 ol_62 rfl dX10_canBeDone_81 ?_
        refine GX_iadd hC dX10_canBeDone_84 ?_
        refine GX_iconst hC 2 dX10_canBeDone_85 rfl ?_
        obtain ⟨m27, e28, h29⟩ := ob h26
        refine GX_stA hC e28 al_64 dX10_canBeDone_86 ?_
        exact (hJ22 _ (oi h29))
      · skip
        have h30 := ifN q e19
        exact (hJ22 _ (oi h30))
    intro m21 q31
    subst q31
    refine GX_aload_n hC dX10_canBeDone_87 rfl ?_
    obtain ⟨b32, e33, h34⟩ := ob h20
    refine GX_callV_i (st := []) hC (C_M_isFine e33) okX10_isFine lkX10_210 ol_62 rfl rfl (Nat.le_of_ble_eq_true rfl) (Nat.le_of_ble_eq_true rfl) hk rfl (Nat.le_of_ble_eq_true rfl) dX10_canBeDone_88 ?_
    refine GX_istore_n hC [some (.ref (gad Γ 62)), some (.int x9), some (.int (bI b32))] dX10_canBeDone_91 (by decide) rfl rfl ?_
    obtain ⟨o35, e36, h37⟩ := ob h34
    suffices hJ39 : ∀ (m38 : MI), m38 = o35 → GX Γ LAY 0 0 [some (.ref (gad Γ 62)), some (.int x9), some (.int (bI b32))] [] m38 136 by
      refine GX_aload_n hC dX10_canBeDone_92 rfl ?_
      refine GX_getI hC fkX10_216 ol_62 rfl dX10_canBeDone_93 ?_
      refine GX_iconst hC 5 dX10_canBeDone_96 rfl ?_
      refine GX_icmp_ne_N hC 136 dX10_canBeDone_97 (by decide) (fun q => ?_) (fun q => ?_)
      · skip
        have h40 := ifP q e36
        refine GX_aload_n hC dX10_canBeDone_100 rfl ?_
        refine GX_getR hC fkX10_13 ol_62 rfl dX10_canBeDone_101 ?_
        refine GX_bipush hC 6 dX10_canBeDone_104 rfl ?_
        refine GX_aload_n hC dX10_canBeDone_106 rfl ?_
        refine GX_getI hC fkX10_222 ol_62 rfl dX10_canBeDone_107 ?_
        refine GX_imul hC dX10_canBeDone_110 ?_
        refine GX_aload_n hC dX10_canBeDone_111 rfl ?_
        refine GX_getI hC fkX10_225 ol_62 rfl dX10_canBeDone_112 ?_
        refine GX_iadd hC dX10_canBeDone_115 ?_
        refine GX_iload_n hC dX10_canBeDone_116 rfl ?_
        obtain ⟨m41, e42, h43⟩ := ob h40
        refine GX_stA hC e42 al_64 dX10_canBeDone_117 ?_
        refine GX_aload_n hC dX10_canBeDone_118 rfl ?_
        refine GX_getR hC fkX10_13 ol_62 rfl dX10_canBeDone_119 ?_
        refine GX_bipush hC 6 dX10_canBeDone_122 rfl ?_
        refine GX_aload_n hC dX10_canBeDone_124 rfl ?_
        refine GX_getI hC fkX10_225 ol_62 rfl dX10_canBeDone_125 ?_
        refine GX_imul hC dX10_canBeDone_128 ?_
        refine GX_aload_n hC dX10_canBeDone_129 rfl ?_
        refine GX_getI hC fkX10_222 ol_62 rfl dX10_canBeDone_130 ?_
        refine GX_iadd hC dX10_canBeDone_133 ?_
        refine GX_iload_n hC dX10_canBeDone_134 rfl ?_
        obtain ⟨m44, e45, h46⟩ := ob h43
        refine GX_stA hC e45 al_64 dX10_canBeDone_135 ?_
        exact (hJ39 _ (oi h46))
      · skip
        have h47 := ifN q e36
        exact (hJ39 _ (oi h47))
    intro m38 q48
    subst q48
    refine GX_aload_n hC dX10_canBeDone_136 rfl ?_
    obtain ⟨m49, e50, h51⟩ := ob h37
    refine GX_callV_v (st := []) hC (C_M_pay e50) okX10_pay lkX10_240 ol_62 rfl rfl (Nat.le_of_ble_eq_true rfl) (Nat.le_of_ble_eq_true rfl) hk rfl (Nat.le_of_ble_eq_true rfl) dX10_canBeDone_137 ?_
    obtain ⟨c52, e53, h54⟩ := ob h51
    suffices hJ55 : GX Γ LAY 0 0 [some (.ref (gad Γ 62)), some (.int x9), some (.int (bI b32))] [.int (bI c52)] m49 176 by
      have hc56 : true = c52 → GX Γ LAY 0 0 [some (.ref (gad Γ 62)), some (.int x9), some (.int (bI b32))] [] m49 171 := by
        intro q
        subst q
        refine GX_iconst hC (bI true) dX10_canBeDone_171 rfl ?_
        refine GX_goto hC 176 dX10_canBeDone_172 (by decide) ?_
        exact hJ55
      have hc57 : false = c52 → GX Γ LAY 0 0 [some (.ref (gad Γ 62)), some (.int x9), some (.int (bI b32))] [] m49 175 := by
        intro q
        subst q
        refine GX_iconst hC (bI false) dX10_canBeDone_175 rfl ?_
        exact hJ55
      refine GX_iload_n hC dX10_canBeDone_140 rfl ?_
      refine GX_ifb_eq hC 175 dX10_canBeDone_141 (by decide) (fun q => ?_) (fun q => ?_)
      · skip
        have h58 := ifT q e53
        refine GX_aload_n hC dX10_canBeDone_144 rfl ?_
        refine GX_getR hC fkX10_46 ol_62 rfl dX10_canBeDone_145 ?_
        refine GX_iconst hC 0 dX10_canBeDone_148 rfl ?_
        obtain ⟨x59, e60, h61⟩ := ob h58
        refine GX_ldA hC e60 al_75 dX10_canBeDone_149 ?_
        refine GX_if_lt_N hC 175 dX10_canBeDone_150 (by decide) (fun q => ?_) (fun q => ?_)
        · skip
          have h62 := ifP q h61
          refine GX_aload_n hC dX10_canBeDone_153 rfl ?_
          refine GX_getR hC fkX10_46 ol_62 rfl dX10_canBeDone_154 ?_
          refine GX_iconst hC 1 dX10_canBeDone_157 rfl ?_
          obtain ⟨x63, e64, h65⟩ := ob h62
          refine GX_ldA hC e64 al_75 dX10_canBeDone_158 ?_
          refine GX_if_lt_N hC 175 dX10_canBeDone_159 (by decide) (fun q => ?_) (fun q => ?_)
          · skip
            have h66 := ifP q h65
            refine GX_aload_n hC dX10_canBeDone_162 rfl ?_
            refine GX_getR hC fkX10_46 ol_62 rfl dX10_canBeDone_163 ?_
            refine GX_iconst hC 2 dX10_canBeDone_166 rfl ?_
            obtain ⟨x67, e68, h69⟩ := ob h66
            refine GX_ldA hC e68 al_75 dX10_canBeDone_167 ?_
            refine GX_if_lt_N hC 175 dX10_canBeDone_168 (by decide) (fun q => ?_) (fun q => ?_)
            · skip
              exact hc56 (cdT q h69)
            · skip
              exact hc57 (cdF q h69)
          · skip
            have h70 := ifN q h65
            exact hc57 (oi h70)
        · skip
          have h71 := ifN q h61
          exact hc57 (oi h71)
      · skip
        have h72 := ifF q e53
        exact hc57 (oi h72)
    exact GX_zretW hC c52 hR dX10_canBeDone_176 (oi h54)
  · skip
    have h73 := ifF q h4
    refine GX_iconst hC (bI false) dX10_canBeDone_7 rfl ?_
    exact GX_zretW hC false hR dX10_canBeDone_8 (oi h73)
set_option maxRecDepth 100000 in
set_option maxHeartbeats 4000000 in
theorem C_M_isWanted {l : Launch} {m1 : MI} {r0 : Bool} {mr : MI}  (hf : M_isWanted m1 = some (r0, mr)) : Cn l yX10_isWanted cX10_isWanted 4 (some .boolean) 2 LAY (fun ad => .ref (ad 62) :: []) m1 (fun _ => some (.int (bI r0))) mr := by
  refine Cn.of (fun ad => [some (.ref (ad 62)), none, none, none]) (by decide +kernel) (fun _ => rfl) (fun _ => Nat.le_of_ble_eq_true rfl) (fun Γ hl hC hR hk => ?_)
  subst hl
  replace hC : CX Γ cX10_isWanted RX10 LAY 2 4 := hC
  dsimp only [M_isWanted] at hf
  refine GX_aload_n hC dX10_isWanted_0 rfl ?_
  obtain ⟨b2, e3, h4⟩ := ob hf
  refine GX_callV_i (st := []) hC (C_M_isAsTold e3) okX10_isAsTold lkX10_234 ol_62 rfl rfl (Nat.le_of_ble_eq_true rfl) (Nat.le_of_ble_eq_true rfl) hk rfl (Nat.le_of_ble_eq_true rfl) dX10_isWanted_1 ?_
  refine GX_istore_n hC [some (.ref (gad Γ 62)), some (.int (bI b2)), none, none] dX10_isWanted_4 (by decide) rfl rfl ?_
  refine GX_iconst hC 0 dX10_isWanted_5 rfl ?_
  refine GX_istore_n hC [some (.ref (gad Γ 62)), some (.int (bI b2)), some (.int 0), none] dX10_isWanted_6 (by decide) rfl rfl ?_
  obtain ⟨o5, e6, h7⟩ := ob h4
  suffices hJ8 : ∀ (wanted12 : Bool) (m13 : MI), (wanted12, m13) = o5 → GX Γ LAY 0 0 [some (.ref (gad Γ 62)), some (.int (bI wanted12)), none, none] [] m13 63 by
    refine lp_walk (P := fun s => GX Γ LAY 0 0 [some (.ref (gad Γ 62)), some (.int (bI s.1)), some (.int s.2.1), none] [] s.2.2 7) (fun s x hx8 hI8 hO8 => ?_) _ _ e6
    obtain ⟨wanted9, p10, m11⟩ := s
    show GX Γ LAY 0 0 [some (.ref (gad Γ 62)), some (.int (bI wanted9)), some (.int p10), none] [] m11 7
    dsimp only [M_isWanted_s1] at hx8
    obtain ⟨c14, e15, h16⟩ := ob hx8
    have hc17 : true = c14 → GX Γ LAY 0 0 [some (.ref (gad Γ 62)), some (.int (bI wanted9)), some (.int p10), none] [] m11 24 := by
      intro q
      have h18 := ifT q.symm h16
      refine GX_aload_n hC dX10_isWanted_24 rfl ?_
      obtain ⟨m19, e20, h21⟩ := ob h18
      refine GX_callV_v (st := []) hC (C_M_takeNow e20) okX10_takeNow lkX10_204 ol_62 rfl rfl (Nat.le_of_ble_eq_true rfl) (Nat.le_of_ble_eq_true rfl) hk rfl (Nat.le_of_ble_eq_true rfl) dX10_isWanted_25 ?_
      refine GX_aload_n hC dX10_isWanted_28 rfl ?_
      refine GX_iload_n hC dX10_isWanted_29 rfl ?_
      obtain ⟨r22, e23, h24⟩ := ob h21
      refine GX_callV_i (st := []) hC (C_M_worthOf e23) okX10_worthOf lkX10_129 ol_62 rfl rfl (Nat.le_of_ble_eq_true rfl) (Nat.le_of_ble_eq_true rfl) hk rfl (Nat.le_of_ble_eq_true rfl) dX10_isWanted_30 ?_
      refine GX_istore_n hC [some (.ref (gad Γ 62)), some (.int (bI wanted9)), some (.int p10), some (.int r22)] dX10_isWanted_33 (by decide) rfl rfl ?_
      refine GX_aload_n hC dX10_isWanted_34 rfl ?_
      obtain ⟨m25, e26, h27⟩ := ob h24
      refine GX_callV_v (st := []) hC (C_M_changeOwners e26) okX10_changeOwners lkX10_237 ol_62 rfl rfl (Nat.le_of_ble_eq_true rfl) (Nat.le_of_ble_eq_true rfl) hk rfl (Nat.le_of_ble_eq_true rfl) dX10_isWanted_35 ?_
      obtain ⟨c28, e29, h30⟩ := ob h27
      suffices hJ31 : GX Γ LAY 0 0 [some (.ref (gad Γ 62)), some (.int (bI wanted9)), some (.int p10), some (.int r22)] [.int (bI c28)] m25 56 by
        have hc32 : true = c28 → GX Γ LAY 0 0 [some (.ref (gad Γ 62)), some (.int (bI wanted9)), some (.int p10), some (.int r22)] [] m25 51 := by
          intro q
          subst q
          refine GX_iconst hC (bI true) dX10_isWanted_51 rfl ?_
          refine GX_goto hC 56 dX10_isWanted_52 (by decide) ?_
          exact hJ31
        have hc33 : false = c28 → GX Γ LAY 0 0 [some (.ref (gad Γ 62)), some (.int (bI wanted9)), some (.int p10), some (.int r22)] [] m25 55 := by
          intro q
          subst q
          refine GX_iconst hC (bI false) dX10_isWanted_55 rfl ?_
          exact hJ31
        refine GX_iload_n hC dX10_isWanted_38 rfl ?_
        refine GX_ifb_eq hC 55 dX10_isWanted_39 (by decide) (fun q => ?_) (fun q => ?_)
        · skip
          have h34 := ifT q e29
          refine GX_aload_n hC dX10_isWanted_42 rfl ?_
          refine GX_iload_n hC dX10_isWanted_43 rfl ?_
          obtain ⟨r35, e36, h37⟩ := ob h34
          refine GX_callV_i (st := []) hC (C_M_worthOf e36) okX10_worthOf lkX10_129 ol_62 rfl rfl (Nat.le_of_ble_eq_true rfl) (Nat.le_of_ble_eq_true rfl) hk rfl (Nat.le_of_ble_eq_true rfl) dX10_isWanted_44 ?_
          refine GX_iload_n hC dX10_isWanted_47 rfl ?_
          refine GX_icmp_lt_N hC 55 dX10_isWanted_48 (by decide) (fun q => ?_) (fun q => ?_)
          · skip
            exact hc32 (cdT q h37)
          · skip
            exact hc33 (cdF q h37)
        · skip
          have h38 := ifF q e29
          exact hc33 (oi h38)
      refine GX_istore_n hC [some (.ref (gad Γ 62)), some (.int (bI c28)), some (.int p10), some (.int r22)] dX10_isWanted_56 (by decide) rfl rfl ?_
      obtain ⟨i39, e40, h41⟩ := ob h30
      refine GX_iinc hC i39 [some (.ref (gad Γ 62)), some (.int (bI c28)), some (.int i39), some (.int r22)] dX10_isWanted_57 rfl (oi e40) (by decide) rfl rfl ?_
      refine GX_goto hC 7 dX10_isWanted_60 (by decide) ?_
      exact GX.le (hI8 _ (oi h41).symm) ⟨rfl, ⟨rfl, ⟨rfl, trivial⟩⟩⟩
    have hc42 : false = c14 → GX Γ LAY 0 0 [some (.ref (gad Γ 62)), some (.int (bI wanted9)), some (.int p10), none] [] m11 63 := by
      intro q
      have h43 := ifF q.symm h16
      exact GX.le (hJ8 _ _ (hO8 _ (oi h43).symm)) ⟨rfl, ⟨rfl, trivial⟩⟩
    refine GX_iload_n hC dX10_isWanted_7 rfl ?_
    refine GX_aload_n hC dX10_isWanted_8 rfl ?_
    refine GX_getI hC fkX10_110 ol_62 rfl dX10_isWanted_9 ?_
    refine GX_icmp_ge_N hC 63 dX10_isWanted_12 (by decide) (fun q => ?_) (fun q => ?_)
    · skip
      have h44 := ifP q e15
      refine GX_aload_n hC dX10_isWanted_15 rfl ?_
      refine GX_getI hC fkX10_216 ol_62 rfl dX10_isWanted_16 ?_
      refine GX_bipush hC 6 dX10_isWanted_19 rfl ?_
      refine GX_icmp_ge_N hC 63 dX10_isWanted_21 (by decide) (fun q => ?_) (fun q => ?_)
      · skip
        exact hc17 (cdT q h44)
      · skip
        exact hc42 (cdF q h44)
    · skip
      have h45 := ifN q e15
      exact hc42 (oi h45)
  intro wanted12 m13 q46
  subst q46
  refine GX_iload_n hC dX10_isWanted_63 rfl ?_
  exact GX_zretW hC wanted12 hR dX10_isWanted_64 (oi h7)
set_option maxRecDepth 100000 in
set_option maxHeartbeats 4000000 in
theorem C_M_may {l : Launch} {d1 : Int32} {what2 : Int32} {m3 : MI} {r0 : Int32} {mr : MI}  (hf : M_may d1 what2 m3 = some (r0, mr)) : Cn l yX10_may cX10_may 3 (some .int) 4 LAY (fun ad => .ref (ad 62) :: [.int d1, .int what2]) m3 (fun _ => some (.int r0)) mr := by
  refine Cn.of (fun ad => [some (.ref (ad 62)), some (.int d1), some (.int what2)]) (by decide +kernel) (fun _ => rfl) (fun _ => Nat.le_of_ble_eq_true rfl) (fun Γ hl hC hR hk => ?_)
  subst hl
  replace hC : CX Γ cX10_may RX10 LAY 4 3 := hC
  dsimp only [M_may] at hf
  refine GX_aload_n hC dX10_may_0 rfl ?_
  refine GX_iconst hC 0 dX10_may_1 rfl ?_
  obtain ⟨m4, e5, h6⟩ := ob hf
  refine GX_stF hC e5 fkX10_99 ftX10_10 ol_62 rfl dX10_may_2 ?_
  obtain ⟨c7, e8, h9⟩ := ob h6
  have hc10 : true = c7 → GX Γ LAY 0 0 [some (.ref (gad Γ 62)), some (.int d1), some (.int what2)] [] m4 23 := by
    intro q
    have h11 := ifT q.symm h9
    obtain ⟨x12, e13, h14⟩ := ob h11
    suffices hJ15 : GX Γ LAY 0 0 [some (.ref (gad Γ 62)), some (.int d1), some (.int what2)] [.int x12] m4 42 by
      refine GX_iload_n hC dX10_may_23 rfl ?_
      refine GX_i2l hC dX10_may_24 ?_
      refine GX_lconst hC 0 dX10_may_25 rfl ?_
      refine GX_lconst hC 1 dX10_may_26 rfl ?_
      obtain ⟨b16, e17, h18⟩ := ob e13
      refine GX_callS_i (st := []) hC (C_M_in e17) okX10_in lkX10_106 rfl (Nat.le_of_ble_eq_true rfl) (Nat.le_of_ble_eq_true rfl) hk rfl (Nat.le_of_ble_eq_true rfl) dX10_may_27 ?_
      refine GX_ifb_ne hC 37 dX10_may_30 (by decide) (fun q => ?_) (fun q => ?_)
      · skip
        have h19 := ifT q h18
        refine GX_aload_n hC dX10_may_37 rfl ?_
        refine GX_iload_n hC dX10_may_38 rfl ?_
        obtain ⟨r20, e21, h22⟩ := ob h19
        refine GX_callV_i (st := []) hC (C_M_wrongMove e21) okX10_wrongMove lkX10_243 ol_62 rfl rfl (Nat.le_of_ble_eq_true rfl) (Nat.le_of_ble_eq_true rfl) hk rfl (Nat.le_of_ble_eq_true rfl) dX10_may_39 ?_
        exact GX_nm (oi h22) hJ15
      · skip
        have h23 := ifF q h18
        refine GX_iconst hC (-1) dX10_may_33 rfl ?_
        refine GX_goto hC 42 dX10_may_34 (by decide) ?_
        exact GX_nm (oi h23) hJ15
    exact GX_iretW hC hR dX10_may_42 (oi h14)
  have hc24 : false = c7 → GX Γ LAY 0 0 [some (.ref (gad Γ 62)), some (.int d1), some (.int what2)] [] m4 43 := by
    intro q
    have h25 := ifF q.symm h9
    refine GX_aload_n hC dX10_may_43 rfl ?_
    refine GX_iload_n hC dX10_may_44 rfl ?_
    obtain ⟨⟨b26, m27⟩, e28, h29⟩ := ob h25
    refine GX_callV_i (st := []) hC (C_M_openMove e28) okX10_openMove lkX10_246 ol_62 rfl rfl (Nat.le_of_ble_eq_true rfl) (Nat.le_of_ble_eq_true rfl) hk rfl (Nat.le_of_ble_eq_true rfl) dX10_may_45 ?_
    refine GX_ifb_ne hC 54 dX10_may_48 (by decide) (fun q => ?_) (fun q => ?_)
    · skip
      have h30 := ifT q h29
      obtain ⟨⟨x31, m32⟩, e33, h34⟩ := ob h30
      suffices hJ35 : GX Γ LAY 0 0 [some (.ref (gad Γ 62)), some (.int d1), some (.int what2)] [.int x31] m32 80 by
        obtain ⟨o36, e37, h38⟩ := ob e33
        have hc41 : ∀ m40 : MI, (true, m40) = o36 → GX Γ LAY 0 0 [some (.ref (gad Γ 62)), some (.int d1), some (.int what2)] [] m40 75 := by
          intro m40 q
          subst q
          have h42 := ifT rfl h38
          refine GX_iconst hC 1 dX10_may_75 rfl ?_
          refine GX_goto hC 80 dX10_may_76 (by decide) ?_
          cases oi h42
          exact hJ35
        have hc44 : ∀ m40 : MI, (false, m40) = o36 → GX Γ LAY 0 0 [some (.ref (gad Γ 62)), some (.int d1), some (.int what2)] [] m40 79 := by
          intro m40 q
          subst q
          have h45 := ifF rfl h38
          refine GX_iconst hC 0 dX10_may_79 rfl ?_
          cases oi h45
          exact hJ35
        refine GX_iload_n hC dX10_may_54 rfl ?_
        refine GX_if_ne_N hC 68 dX10_may_55 (by decide) (fun q => ?_) (fun q => ?_)
        · skip
          have h47 := ifP q e37
          refine GX_aload_n hC dX10_may_58 rfl ?_
          obtain ⟨⟨b48, m49⟩, e50, h51⟩ := ob h47
          refine GX_callV_i (st := []) hC (C_M_canBeDone e50) okX10_canBeDone lkX10_249 ol_62 rfl rfl (Nat.le_of_ble_eq_true rfl) (Nat.le_of_ble_eq_true rfl) hk rfl (Nat.le_of_ble_eq_true rfl) dX10_may_59 ?_
          refine GX_ifb_eq hC 79 dX10_may_62 (by decide) (fun q => ?_) (fun q => ?_)
          · skip
            refine GX_goto hC 75 dX10_may_65 (by decide) ?_
            exact hc41 _ (mbT q h51)
          · skip
            exact hc44 _ (mbF q h51)
        · skip
          have h52 := ifN q e37
          refine GX_aload_n hC dX10_may_68 rfl ?_
          obtain ⟨⟨b53, m54⟩, e55, h56⟩ := ob h52
          refine GX_callV_i (st := []) hC (C_M_isWanted e55) okX10_isWanted lkX10_252 ol_62 rfl rfl (Nat.le_of_ble_eq_true rfl) (Nat.le_of_ble_eq_true rfl) hk rfl (Nat.le_of_ble_eq_true rfl) dX10_may_69 ?_
          refine GX_ifb_eq hC 79 dX10_may_72 (by decide) (fun q => ?_) (fun q => ?_)
          · skip
            exact hc41 _ (mbT q h56)
          · skip
            exact hc44 _ (mbF q h56)
      exact GX_iretW hC hR dX10_may_80 (oi h34)
    · skip
      have h57 := ifF q h29
      refine GX_bipush hC (-13) dX10_may_51 rfl ?_
      exact GX_iretW hC hR dX10_may_53 (oi h57)
  refine GX_iload_n hC dX10_may_5 rfl ?_
  refine GX_i2l hC dX10_may_6 ?_
  refine GX_lconst hC 0 dX10_may_7 rfl ?_
  refine GX_lconst hC 1 dX10_may_8 rfl ?_
  obtain ⟨b58, e59, h60⟩ := ob e8
  refine GX_callS_i (st := []) hC (C_M_in e59) okX10_in lkX10_106 rfl (Nat.le_of_ble_eq_true rfl) (Nat.le_of_ble_eq_true rfl) hk rfl (Nat.le_of_ble_eq_true rfl) dX10_may_9 ?_
  refine GX_ifb_eq hC 23 dX10_may_12 (by decide) (fun q => ?_) (fun q => ?_)
  · skip
    have h61 := ifT q h60
    refine GX_aload_n hC dX10_may_15 rfl ?_
    refine GX_iload_n hC dX10_may_16 rfl ?_
    obtain ⟨r62, e63, h64⟩ := ob h61
    refine GX_callV_i (st := []) hC (C_M_wrongMove e63) okX10_wrongMove lkX10_243 ol_62 rfl rfl (Nat.le_of_ble_eq_true rfl) (Nat.le_of_ble_eq_true rfl) hk rfl (Nat.le_of_ble_eq_true rfl) dX10_may_17 ?_
    refine GX_if_ge_N hC 43 dX10_may_20 (by decide) (fun q => ?_) (fun q => ?_)
    · skip
      exact hc10 (cdT q h64)
    · skip
      exact hc24 (cdF q h64)
  · skip
    have h65 := ifF q h60
    exact hc10 (oi h65)
set_option maxRecDepth 100000 in
set_option maxHeartbeats 4000000 in
theorem C_M_move {l : Launch} {d1 : Int32} {m2 : MI} {r0 : Int32} {mr : MI}  (hf : M_move d1 m2 = some (r0, mr)) : Cn l yX10_move cX10_move 4 (some .int) 4 LAY (fun ad => .ref (ad 62) :: [.int d1]) m2 (fun _ => some (.int r0)) mr := by
  refine Cn.of (fun ad => [some (.ref (ad 62)), some (.int d1), none, none]) (by decide +kernel) (fun _ => rfl) (fun _ => Nat.le_of_ble_eq_true rfl) (fun Γ hl hC hR hk => ?_)
  subst hl
  replace hC : CX Γ cX10_move RX10 LAY 4 4 := hC
  dsimp only [M_move] at hf
  refine GX_aload_n hC dX10_move_0 rfl ?_
  refine GX_iconst hC 0 dX10_move_1 rfl ?_
  obtain ⟨m3, e4, h5⟩ := ob hf
  refine GX_stF hC e4 fkX10_99 ftX10_10 ol_62 rfl dX10_move_2 ?_
  refine GX_aload_n hC dX10_move_5 rfl ?_
  refine GX_iload_n hC dX10_move_6 rfl ?_
  obtain ⟨r6, e7, h8⟩ := ob h5
  refine GX_callV_i (st := []) hC (C_M_wrongMove e7) okX10_wrongMove lkX10_243 ol_62 rfl rfl (Nat.le_of_ble_eq_true rfl) (Nat.le_of_ble_eq_true rfl) hk rfl (Nat.le_of_ble_eq_true rfl) dX10_move_7 ?_
  refine GX_if_ge_N hC 19 dX10_move_10 (by decide) (fun q => ?_) (fun q => ?_)
  · skip
    have h9 := ifP q h8
    refine GX_aload_n hC dX10_move_13 rfl ?_
    refine GX_iload_n hC dX10_move_14 rfl ?_
    obtain ⟨r10, e11, h12⟩ := ob h9
    refine GX_callV_i (st := []) hC (C_M_wrongMove e11) okX10_wrongMove lkX10_243 ol_62 rfl rfl (Nat.le_of_ble_eq_true rfl) (Nat.le_of_ble_eq_true rfl) hk rfl (Nat.le_of_ble_eq_true rfl) dX10_move_15 ?_
    exact GX_iretW hC hR dX10_move_18 (oi h12)
  · skip
    have h13 := ifN q h8
    refine GX_aload_n hC dX10_move_19 rfl ?_
    refine GX_iload_n hC dX10_move_20 rfl ?_
    obtain ⟨⟨b14, m15⟩, e16, h17⟩ := ob h13
    refine GX_callV_i (st := []) hC (C_M_openMove e16) okX10_openMove lkX10_246 ol_62 rfl rfl (Nat.le_of_ble_eq_true rfl) (Nat.le_of_ble_eq_true rfl) hk rfl (Nat.le_of_ble_eq_true rfl) dX10_move_21 ?_
    refine GX_ifb_ne hC 30 dX10_move_24 (by decide) (fun q => ?_) (fun q => ?_)
    · skip
      have h18 := ifT q h17
      refine GX_aload_n hC dX10_move_30 rfl ?_
      obtain ⟨⟨b19, m20⟩, e21, h22⟩ := ob h18
      refine GX_callV_i (st := []) hC (C_M_canBeDone e21) okX10_canBeDone lkX10_249 ol_62 rfl rfl (Nat.le_of_ble_eq_true rfl) (Nat.le_of_ble_eq_true rfl) hk rfl (Nat.le_of_ble_eq_true rfl) dX10_move_31 ?_
      refine GX_ifb_ne hC 40 dX10_move_34 (by decide) (fun q => ?_) (fun q => ?_)
      · skip
        have h23 := ifT q h22
        refine GX_iconst hC 0 dX10_move_40 rfl ?_
        refine GX_istore_n hC [some (.ref (gad Γ 62)), some (.int d1), some (.int 0), none] dX10_move_41 (by decide) rfl rfl ?_
        refine GX_iconst hC 0 dX10_move_42 rfl ?_
        refine GX_istore_n hC [some (.ref (gad Γ 62)), some (.int d1), some (.int 0), some (.int 0)] dX10_move_43 (by decide) rfl rfl ?_
        obtain ⟨o24, e25, h26⟩ := ob h23
        suffices hJ27 : ∀ (n31 : Int32) (m32 : MI), (n31, m32) = o24 → GX Γ LAY 0 0 [some (.ref (gad Γ 62)), some (.int d1), some (.int n31), none] [] m32 93 by
          refine lp_walk (P := fun s => GX Γ LAY 0 0 [some (.ref (gad Γ 62)), some (.int d1), some (.int s.1), some (.int s.2.1)] [] s.2.2 44) (fun s x hx27 hI27 hO27 => ?_) _ _ e25
          obtain ⟨n28, f29, m30⟩ := s
          show GX Γ LAY 0 0 [some (.ref (gad Γ 62)), some (.int d1), some (.int n28), some (.int f29)] [] m30 44
          dsimp only [M_move_s1] at hx27
          refine GX_iload_n hC dX10_move_44 rfl ?_
          refine GX_aload_n hC dX10_move_45 rfl ?_
          refine GX_getI hC fkX10_103 ol_62 rfl dX10_move_46 ?_
          refine GX_icmp_ge_N hC 93 dX10_move_49 (by decide) (fun q => ?_) (fun q => ?_)
          · skip
            have h33 := ifP q hx27
            refine GX_iload_n hC dX10_move_52 rfl ?_
            obtain ⟨x34, e35, h36⟩ := ob h33
            suffices hJ37 : GX Γ LAY 0 0 [some (.ref (gad Γ 62)), some (.int d1), some (.int n28), some (.int f29)] [.int x34, .int n28] m30 73 by
              refine GX_aload_n hC dX10_move_53 rfl ?_
              refine GX_getR hC fkX10_25 ol_62 rfl dX10_move_54 ?_
              refine GX_iload_n hC dX10_move_57 rfl ?_
              obtain ⟨x38, e39, h40⟩ := ob e35
              refine GX_ldA hC e39 al_68 dX10_move_58 ?_
              refine GX_aload_n hC dX10_move_59 rfl ?_
              refine GX_getR hC fkX10_28 ol_62 rfl dX10_move_60 ?_
              refine GX_iload_n hC dX10_move_63 rfl ?_
              obtain ⟨x41, e42, h43⟩ := ob h40
              refine GX_ldA hC e42 al_69 dX10_move_64 ?_
              refine GX_icmp_ne_N hC 72 dX10_move_65 (by decide) (fun q => ?_) (fun q => ?_)
              · skip
                have h44 := ifP q h43
                refine GX_iconst hC 0 dX10_move_68 rfl ?_
                refine GX_goto hC 73 dX10_move_69 (by decide) ?_
                exact GX_nm (oi h44) hJ37
              · skip
                have h45 := ifN q h43
                refine GX_iconst hC 1 dX10_move_72 rfl ?_
                exact GX_nm (oi h45) hJ37
            refine GX_iadd hC dX10_move_73 ?_
            obtain ⟨n46, e47, h48⟩ := ob h36
            refine GX_nm (oi e47) ?_
            refine GX_istore_n hC [some (.ref (gad Γ 62)), some (.int d1), some (.int n46), some (.int f29)] dX10_move_74 (by decide) rfl rfl ?_
            refine GX_aload_n hC dX10_move_75 rfl ?_
            refine GX_getR hC fkX10_25 ol_62 rfl dX10_move_76 ?_
            refine GX_iload_n hC dX10_move_79 rfl ?_
            refine GX_aload_n hC dX10_move_80 rfl ?_
            refine GX_getR hC fkX10_28 ol_62 rfl dX10_move_81 ?_
            refine GX_iload_n hC dX10_move_84 rfl ?_
            obtain ⟨x49, e50, h51⟩ := ob h48
            refine GX_ldA hC e50 al_69 dX10_move_85 ?_
            obtain ⟨m52, e53, h54⟩ := ob h51
            refine GX_stA hC e53 al_68 dX10_move_86 ?_
            obtain ⟨i55, e56, h57⟩ := ob h54
            refine GX_iinc hC i55 [some (.ref (gad Γ 62)), some (.int d1), some (.int n46), some (.int i55)] dX10_move_87 rfl (oi e56) (by decide) rfl rfl ?_
            refine GX_goto hC 44 dX10_move_90 (by decide) ?_
            exact hI27 _ (oi h57).symm
          · skip
            have h58 := ifN q hx27
            exact GX.le (hJ27 _ _ (hO27 _ (oi h58).symm)) ⟨rfl, ⟨rfl, ⟨rfl, trivial⟩⟩⟩
        intro n31 m32 q59
        subst q59
        refine GX_iconst hC 0 dX10_move_93 rfl ?_
        refine GX_istore_n hC [some (.ref (gad Γ 62)), some (.int d1), some (.int n31), some (.int 0)] dX10_move_94 (by decide) rfl rfl ?_
        obtain ⟨o60, e61, h62⟩ := ob h26
        suffices hJ63 : ∀ (m66 : MI), m66 = o60 → GX Γ LAY 0 0 [some (.ref (gad Γ 62)), some (.int d1), some (.int n31), none] [] m66 118 by
          refine lp_walk (P := fun s => GX Γ LAY 0 0 [some (.ref (gad Γ 62)), some (.int d1), some (.int n31), some (.int s.1)] [] s.2 95) (fun s x hx63 hI63 hO63 => ?_) _ _ e61
          obtain ⟨p64, m65⟩ := s
          show GX Γ LAY 0 0 [some (.ref (gad Γ 62)), some (.int d1), some (.int n31), some (.int p64)] [] m65 95
          dsimp only [M_move_s2] at hx63
          refine GX_iload_n hC dX10_move_95 rfl ?_
          refine GX_iconst hC 3 dX10_move_96 rfl ?_
          refine GX_icmp_ge_N hC 118 dX10_move_97 (by decide) (fun q => ?_) (fun q => ?_)
          · skip
            have h67 := ifP q hx63
            refine GX_aload_n hC dX10_move_100 rfl ?_
            refine GX_getR hC fkX10_16 ol_62 rfl dX10_move_101 ?_
            refine GX_iload_n hC dX10_move_104 rfl ?_
            refine GX_aload_n hC dX10_move_105 rfl ?_
            refine GX_getR hC fkX10_46 ol_62 rfl dX10_move_106 ?_
            refine GX_iload_n hC dX10_move_109 rfl ?_
            obtain ⟨x68, e69, h70⟩ := ob h67
            refine GX_ldA hC e69 al_75 dX10_move_110 ?_
            obtain ⟨m71, e72, h73⟩ := ob h70
            refine GX_stA hC e72 al_65 dX10_move_111 ?_
            obtain ⟨i74, e75, h76⟩ := ob h73
            refine GX_iinc hC i74 [some (.ref (gad Γ 62)), some (.int d1), some (.int n31), some (.int i74)] dX10_move_112 rfl (oi e75) (by decide) rfl rfl ?_
            refine GX_goto hC 95 dX10_move_115 (by decide) ?_
            exact hI63 _ (oi h76).symm
          · skip
            have h77 := ifN q hx63
            exact GX.le (hJ63 _ (hO63 _ (oi h77).symm)) ⟨rfl, ⟨rfl, ⟨rfl, trivial⟩⟩⟩
        intro m66 q78
        subst q78
        obtain ⟨o79, e80, h81⟩ := ob h62
        suffices hJ83 : ∀ (m82 : MI), m82 = o79 → GX Γ LAY 0 0 [some (.ref (gad Γ 62)), some (.int d1), some (.int n31), none] [] m82 162 by
          refine GX_aload_n hC dX10_move_118 rfl ?_
          refine GX_getI hC fkX10_216 ol_62 rfl dX10_move_119 ?_
          refine GX_iconst hC 5 dX10_move_122 rfl ?_
          refine GX_icmp_ne_N hC 162 dX10_move_123 (by decide) (fun q => ?_) (fun q => ?_)
          · skip
            have h84 := ifP q e80
            refine GX_aload_n hC dX10_move_126 rfl ?_
            refine GX_getR hC fkX10_13 ol_62 rfl dX10_move_127 ?_
            refine GX_bipush hC 6 dX10_move_130 rfl ?_
            refine GX_aload_n hC dX10_move_132 rfl ?_
            refine GX_getI hC fkX10_222 ol_62 rfl dX10_move_133 ?_
            refine GX_imul hC dX10_move_136 ?_
            refine GX_aload_n hC dX10_move_137 rfl ?_
            refine GX_getI hC fkX10_225 ol_62 rfl dX10_move_138 ?_
            refine GX_iadd hC dX10_move_141 ?_
            refine GX_iconst hC 2 dX10_move_142 rfl ?_
            obtain ⟨m85, e86, h87⟩ := ob h84
            refine GX_stA hC e86 al_64 dX10_move_143 ?_
            refine GX_aload_n hC dX10_move_144 rfl ?_
            refine GX_getR hC fkX10_13 ol_62 rfl dX10_move_145 ?_
            refine GX_bipush hC 6 dX10_move_148 rfl ?_
            refine GX_aload_n hC dX10_move_150 rfl ?_
            refine GX_getI hC fkX10_225 ol_62 rfl dX10_move_151 ?_
            refine GX_imul hC dX10_move_154 ?_
            refine GX_aload_n hC dX10_move_155 rfl ?_
            refine GX_getI hC fkX10_222 ol_62 rfl dX10_move_156 ?_
            refine GX_iadd hC dX10_move_159 ?_
            refine GX_iconst hC 2 dX10_move_160 rfl ?_
            obtain ⟨m88, e89, h90⟩ := ob h87
            refine GX_stA hC e89 al_64 dX10_move_161 ?_
            exact (hJ83 _ (oi h90))
          · skip
            have h91 := ifN q e80
            exact (hJ83 _ (oi h91))
        intro m82 q92
        subst q92
        refine GX_iload_n hC dX10_move_162 rfl ?_
        exact GX_iretW hC hR dX10_move_163 (oi h81)
      · skip
        have h93 := ifF q h22
        refine GX_bipush hC (-3) dX10_move_37 rfl ?_
        exact GX_iretW hC hR dX10_move_39 (oi h93)
    · skip
      have h94 := ifF q h17
      refine GX_bipush hC (-13) dX10_move_27 rfl ?_
      exact GX_iretW hC hR dX10_move_29 (oi h94)
set_option maxRecDepth 100000 in
set_option maxHeartbeats 4000000 in
theorem C_M_judge {l : Launch} {d1 : Int32} {m2 : MI} {r0 : Int32} {mr : MI}  (hf : M_judge d1 m2 = some (r0, mr)) : Cn l yX10_judge cX10_judge 9 (some .int) 3 LAY (fun ad => .ref (ad 62) :: [.int d1]) m2 (fun _ => some (.int r0)) mr := by
  refine Cn.of (fun ad => [some (.ref (ad 62)), some (.int d1), none, none, none, none, none, none, none]) (by decide +kernel) (fun _ => rfl) (fun _ => Nat.le_of_ble_eq_true rfl) (fun Γ hl hC hR hk => ?_)
  subst hl
  replace hC : CX Γ cX10_judge RX10 LAY 3 9 := hC
  dsimp only [M_judge] at hf
  refine GX_aload_n hC dX10_judge_0 rfl ?_
  refine GX_iconst hC 0 dX10_judge_1 rfl ?_
  obtain ⟨m3, e4, h5⟩ := ob hf
  refine GX_stF hC e4 fkX10_99 ftX10_10 ol_62 rfl dX10_judge_2 ?_
  refine GX_aload_n hC dX10_judge_5 rfl ?_
  refine GX_iload_n hC dX10_judge_6 rfl ?_
  obtain ⟨r6, e7, h8⟩ := ob h5
  refine GX_callV_i (st := []) hC (C_M_wrongBytes e7) okX10_wrongBytes lkX10_184 ol_62 rfl rfl (Nat.le_of_ble_eq_true rfl) (Nat.le_of_ble_eq_true rfl) hk rfl (Nat.le_of_ble_eq_true rfl) dX10_judge_7 ?_
  refine GX_istore_n hC [some (.ref (gad Γ 62)), some (.int d1), some (.int r6), none, none, none, none, none, none] dX10_judge_10 (by decide) rfl rfl ?_
  refine GX_iload_n hC dX10_judge_11 rfl ?_
  refine GX_if_ge_N hC 17 dX10_judge_12 (by decide) (fun q => ?_) (fun q => ?_)
  · skip
    have h9 := ifP q h8
    refine GX_iload_n hC dX10_judge_15 rfl ?_
    exact GX_iretW hC hR dX10_judge_16 (oi h9)
  · skip
    have h10 := ifN q h8
    refine GX_aload_n hC dX10_judge_17 rfl ?_
    refine GX_getR hC fkX10_89 ol_62 rfl dX10_judge_18 ?_
    refine GX_iload_n hC dX10_judge_21 rfl ?_
    obtain ⟨x11, e12, h13⟩ := ob h10
    refine GX_ldA hC e12 al_89 dX10_judge_22 ?_
    refine GX_istore_n hC [some (.ref (gad Γ 62)), some (.int d1), some (.int r6), some (.int x11), none, none, none, none, none] dX10_judge_23 (by decide) rfl rfl ?_
    refine GX_aload_n hC dX10_judge_24 rfl ?_
    obtain ⟨m14, e15, h16⟩ := ob h13
    refine GX_callV_v (st := []) hC (C_M_takeNow e15) okX10_takeNow lkX10_204 ol_62 rfl rfl (Nat.le_of_ble_eq_true rfl) (Nat.le_of_ble_eq_true rfl) hk rfl (Nat.le_of_ble_eq_true rfl) dX10_judge_25 ?_
    refine GX_iconst hC 0 dX10_judge_28 rfl ?_
    refine GX_istore hC [some (.ref (gad Γ 62)), some (.int d1), some (.int r6), some (.int x11), some (.int 0), none, none, none, none] dX10_judge_29 (by decide) rfl rfl ?_
    obtain ⟨o17, e18, h19⟩ := ob h16
    have hR20 : ∀ res : Int32 × MI, Sum.inr res = o17 → res = (r0, mr) := by
      intro res q
      subst q
      have h19 := seR h19
      exact (oi h19)
    suffices hJ20 : ∀ (m23 : MI), Sum.inl m23 = o17 → GX Γ LAY 0 0 [some (.ref (gad Γ 62)), some (.int d1), some (.int r6), some (.int x11), none, none, none, none, none] [] m23 155 by
      refine lp_walk (P := fun s => GX Γ LAY 0 0 [some (.ref (gad Γ 62)), some (.int d1), some (.int r6), some (.int x11), some (.int s.1), none, none, none, none] [] s.2 31) (fun s x hx20 hI20 hO20 => ?_) _ _ e18
      obtain ⟨i21, m22⟩ := s
      show GX Γ LAY 0 0 [some (.ref (gad Γ 62)), some (.int d1), some (.int r6), some (.int x11), some (.int i21), none, none, none, none] [] m22 31
      dsimp only [M_judge_s1] at hx20
      refine GX_iload hC dX10_judge_31 rfl ?_
      refine GX_iconst hC 1 dX10_judge_33 rfl ?_
      refine GX_iadd hC dX10_judge_34 ?_
      refine GX_iload_n hC dX10_judge_35 rfl ?_
      refine GX_icmp_ge_N hC 155 dX10_judge_36 (by decide) (fun q => ?_) (fun q => ?_)
      · skip
        have h24 := ifP q hx20
        refine GX_aload_n hC dX10_judge_39 rfl ?_
        refine GX_getR hC fkX10_92 ol_62 rfl dX10_judge_40 ?_
        refine GX_bipush hC 100 dX10_judge_43 rfl ?_
        refine GX_iload_n hC dX10_judge_45 rfl ?_
        refine GX_imul hC dX10_judge_46 ?_
        refine GX_iload hC dX10_judge_47 rfl ?_
        refine GX_iadd hC dX10_judge_49 ?_
        obtain ⟨x25, e26, h27⟩ := ob h24
        refine GX_ldL hC e26 al_90 dX10_judge_50 ?_
        refine GX_lstore hC [some (.ref (gad Γ 62)), some (.int d1), some (.int r6), some (.int x11), some (.int i21), some (.long x25), none, none, none] dX10_judge_51 (by decide) rfl rfl rfl ?_
        refine GX_aload_n hC dX10_judge_53 rfl ?_
        refine GX_getR hC fkX10_92 ol_62 rfl dX10_judge_54 ?_
        refine GX_bipush hC 100 dX10_judge_57 rfl ?_
        refine GX_iload_n hC dX10_judge_59 rfl ?_
        refine GX_imul hC dX10_judge_60 ?_
        refine GX_iload hC dX10_judge_61 rfl ?_
        refine GX_iadd hC dX10_judge_63 ?_
        refine GX_iconst hC 1 dX10_judge_64 rfl ?_
        refine GX_iadd hC dX10_judge_65 ?_
        obtain ⟨x28, e29, h30⟩ := ob h27
        refine GX_ldL hC e29 al_90 dX10_judge_66 ?_
        refine GX_lstore hC [some (.ref (gad Γ 62)), some (.int d1), some (.int r6), some (.int x11), some (.int i21), some (.long x25), none, some (.long x28), none] dX10_judge_67 (by decide) rfl rfl rfl ?_
        obtain ⟨c31, e32, h33⟩ := ob h30
        have hc34 : true = c31 → GX Γ LAY 0 0 [some (.ref (gad Γ 62)), some (.int d1), some (.int r6), some (.int x11), some (.int i21), some (.long x25), none, some (.long x28), none] [] m22 110 := by
          intro q
          have h35 := ifT q.symm h33
          refine GX_iload hC dX10_judge_110 rfl ?_
          exact GX_iretW hC hR dX10_judge_112 (hR20 _ (hO20 _ (oi h35).symm))
        have hc36 : false = c31 → GX Γ LAY 0 0 [some (.ref (gad Γ 62)), some (.int d1), some (.int r6), some (.int x11), some (.int i21), some (.long x25), none, some (.long x28), none] [] m22 113 := by
          intro q
          have h37 := ifF q.symm h33
          refine GX_aload_n hC dX10_judge_113 rfl ?_
          refine GX_getR hC fkX10_28 ol_62 rfl dX10_judge_114 ?_
          refine GX_lload hC dX10_judge_117 rfl ?_
          refine GX_l2i hC dX10_judge_119 ?_
          obtain ⟨x38, e39, h40⟩ := ob h37
          suffices hJ41 : GX Γ LAY 0 0 [some (.ref (gad Γ 62)), some (.int d1), some (.int r6), some (.int x11), some (.int i21), some (.long x25), none, some (.long x28), none] [.int x38, .int (x28.toInt32), .ref (gad Γ 69)] m22 138 by
            refine GX_lload hC dX10_judge_120 rfl ?_
            refine GX_ldc2 hC 9 kcX10_255 dX10_judge_122 ?_
            refine GX_lc_ne_N hC 133 dX10_judge_125 dX10_judge_126 (by decide) (fun q => ?_) (fun q => ?_)
            · skip
              have h42 := ifP q e39
              refine GX_iconst hC 0 dX10_judge_129 rfl ?_
              refine GX_goto hC 138 dX10_judge_130 (by decide) ?_
              exact GX_nm (oi h42) hJ41
            · skip
              have h43 := ifN q e39
              refine GX_lload hC dX10_judge_133 rfl ?_
              refine GX_l2i hC dX10_judge_135 ?_
              refine GX_iconst hC 1 dX10_judge_136 rfl ?_
              refine GX_iadd hC dX10_judge_137 ?_
              exact GX_nm (oi h43) hJ41
          obtain ⟨m44, e45, h46⟩ := ob h40
          refine GX_stA hC e45 al_69 dX10_judge_138 ?_
          refine GX_aload_n hC dX10_judge_139 rfl ?_
          obtain ⟨b47, e48, h49⟩ := ob h46
          refine GX_callV_i (st := []) hC (C_M_isFine e48) okX10_isFine lkX10_210 ol_62 rfl rfl (Nat.le_of_ble_eq_true rfl) (Nat.le_of_ble_eq_true rfl) hk rfl (Nat.le_of_ble_eq_true rfl) dX10_judge_140 ?_
          refine GX_ifb_ne hC 149 dX10_judge_143 (by decide) (fun q => ?_) (fun q => ?_)
          · skip
            have h50 := ifT q h49
            obtain ⟨i51, e52, h53⟩ := ob h50
            refine GX_iinc hC i51 [some (.ref (gad Γ 62)), some (.int d1), some (.int r6), some (.int x11), some (.int i51), some (.long x25), none, some (.long x28), none] dX10_judge_149 rfl (oi e52) (by decide) rfl rfl ?_
            refine GX_goto hC 31 dX10_judge_152 (by decide) ?_
            exact GX.le (hI20 _ (oi h53).symm) ⟨rfl, ⟨rfl, ⟨rfl, ⟨rfl, ⟨rfl, trivial⟩⟩⟩⟩⟩
          · skip
            have h54 := ifF q h49
            refine GX_iload hC dX10_judge_146 rfl ?_
            exact GX_iretW hC hR dX10_judge_148 (hR20 _ (hO20 _ (oi h54).symm))
        obtain ⟨c55, e56, h57⟩ := ob e32
        have hc58 : true = c55 → GX Γ LAY 0 0 [some (.ref (gad Γ 62)), some (.int d1), some (.int r6), some (.int x11), some (.int i21), some (.long x25), none, some (.long x28), none] [] m22 110 := by
          intro q
          have h59 := ifT q.symm h57
          exact hc34 (oi h59)
        have hc60 : false = c55 → GX Γ LAY 0 0 [some (.ref (gad Γ 62)), some (.int d1), some (.int r6), some (.int x11), some (.int i21), some (.long x25), none, some (.long x28), none] [] m22 94 := by
          intro q
          have h61 := ifF q.symm h57
          refine GX_lload hC dX10_judge_94 rfl ?_
          refine GX_lconst hC 0 dX10_judge_96 rfl ?_
          refine GX_aload_n hC dX10_judge_97 rfl ?_
          refine GX_getI hC fkX10_103 ol_62 rfl dX10_judge_98 ?_
          refine GX_iconst hC 1 dX10_judge_101 rfl ?_
          refine GX_isub hC dX10_judge_102 ?_
          refine GX_i2l hC dX10_judge_103 ?_
          obtain ⟨b62, e63, h64⟩ := ob h61
          refine GX_callS_i (st := []) hC (C_M_in e63) okX10_in lkX10_106 rfl (Nat.le_of_ble_eq_true rfl) (Nat.le_of_ble_eq_true rfl) hk rfl (Nat.le_of_ble_eq_true rfl) dX10_judge_104 ?_
          refine GX_ifb_ne hC 113 dX10_judge_107 (by decide) (fun q => ?_) (fun q => ?_)
          · skip
            exact hc36 (cbnT q h64)
          · skip
            exact hc34 (cbnF q h64)
        refine GX_lload hC dX10_judge_69 rfl ?_
        refine GX_lconst hC 0 dX10_judge_71 rfl ?_
        refine GX_aload_n hC dX10_judge_72 rfl ?_
        refine GX_getI hC fkX10_110 ol_62 rfl dX10_judge_73 ?_
        refine GX_iconst hC 1 dX10_judge_76 rfl ?_
        refine GX_isub hC dX10_judge_77 ?_
        refine GX_i2l hC dX10_judge_78 ?_
        obtain ⟨b65, e66, h67⟩ := ob e56
        refine GX_callS_i (st := []) hC (C_M_in e66) okX10_in lkX10_106 rfl (Nat.le_of_ble_eq_true rfl) (Nat.le_of_ble_eq_true rfl) hk rfl (Nat.le_of_ble_eq_true rfl) dX10_judge_79 ?_
        refine GX_ifb_ne hC 94 dX10_judge_82 (by decide) (fun q => ?_) (fun q => ?_)
        · skip
          have h68 := ifT q h67
          exact hc60 (oi h68)
        · skip
          have h69 := ifF q h67
          refine GX_lload hC dX10_judge_85 rfl ?_
          refine GX_ldc2 hC 9 kcX10_255 dX10_judge_87 ?_
          refine GX_lc_ne_P hC 110 dX10_judge_90 dX10_judge_91 (by decide) (fun q => ?_) (fun q => ?_)
          · skip
            exact hc58 (cdT q h69)
          · skip
            exact hc60 (cdF q h69)
      · skip
        have h70 := ifN q hx20
        exact GX.le (hJ20 _ (hO20 _ (oi h70).symm)) ⟨rfl, ⟨rfl, ⟨rfl, ⟨rfl, trivial⟩⟩⟩⟩
    intro m23 q71
    subst q71
    have h19 := seL h19
    obtain ⟨x72, e73, h74⟩ := ob h19
    suffices hJ75 : GX Γ LAY 0 0 [some (.ref (gad Γ 62)), some (.int d1), some (.int r6), some (.int x11), none, none, none, none, none] [.int x72] m23 168 by
      refine GX_iload_n hC dX10_judge_155 rfl ?_
      refine GX_iconst hC 2 dX10_judge_156 rfl ?_
      refine GX_irem hC dX10_judge_157 (by decide) ?_
      refine GX_iconst hC 1 dX10_judge_158 rfl ?_
      refine GX_icmp_ne_N hC 166 dX10_judge_159 (by decide) (fun q => ?_) (fun q => ?_)
      · skip
        have h76 := ifP q e73
        refine GX_iload_n hC dX10_judge_162 rfl ?_
        refine GX_goto hC 168 dX10_judge_163 (by decide) ?_
        exact GX_nm (oi h76) hJ75
      · skip
        have h77 := ifN q e73
        refine GX_bipush hC (-4) dX10_judge_166 rfl ?_
        exact GX_nm (oi h77) hJ75
    exact GX_iretW hC hR dX10_judge_168 (oi h74)
set_option maxRecDepth 100000 in
set_option maxHeartbeats 4000000 in
theorem C_M_power {l : Launch} {of1 : Int32} {n2 : Int32} {μ0 : MI} {r0 : Int32}  (hf : M_power of1 n2 = some r0) : Cn l yX10_power cX10_power 4 (some .int) 0 LAY (fun ad => [.int of1, .int n2]) μ0 (fun _ => some (.int r0)) μ0 := by
  refine Cn.of (fun ad => [some (.int of1), some (.int n2), none, none]) (by decide +kernel) (fun _ => rfl) (fun _ => Nat.le_of_ble_eq_true rfl) (fun Γ hl hC hR hk => ?_)
  subst hl
  replace hC : CX Γ cX10_power RX10 LAY 0 4 := hC
  dsimp only [M_power] at hf
  refine GX_iconst hC 1 dX10_power_0 rfl ?_
  refine GX_istore_n hC [some (.int of1), some (.int n2), some (.int 1), none] dX10_power_1 (by decide) rfl rfl ?_
  refine GX_iconst hC 0 dX10_power_2 rfl ?_
  refine GX_istore_n hC [some (.int of1), some (.int n2), some (.int 1), some (.int 0)] dX10_power_3 (by decide) rfl rfl ?_
  obtain ⟨o3, e4, h5⟩ := ob hf
  suffices hJ6 : ∀ (v9 : Int32), v9 = o3 → GX Γ LAY 0 0 [some (.int of1), some (.int n2), some (.int v9), none] [] μ0 19 by
    refine lp_walk (P := fun s => GX Γ LAY 0 0 [some (.int of1), some (.int n2), some (.int s.1), some (.int s.2)] [] μ0 4) (fun s x hx6 hI6 hO6 => ?_) _ _ e4
    obtain ⟨v7, k8⟩ := s
    show GX Γ LAY 0 0 [some (.int of1), some (.int n2), some (.int v7), some (.int k8)] [] μ0 4
    dsimp only [M_power_s1] at hx6
    refine GX_iload_n hC dX10_power_4 rfl ?_
    refine GX_iload_n hC dX10_power_5 rfl ?_
    refine GX_icmp_ge_N hC 19 dX10_power_6 (by decide) (fun q => ?_) (fun q => ?_)
    · skip
      have h10 := ifP q hx6
      refine GX_iload_n hC dX10_power_9 rfl ?_
      refine GX_iload_n hC dX10_power_10 rfl ?_
      refine GX_imul hC dX10_power_11 ?_
      obtain ⟨v11, e12, h13⟩ := ob h10
      refine GX_nm (oi e12) ?_
      refine GX_istore_n hC [some (.int of1), some (.int n2), some (.int v11), some (.int k8)] dX10_power_12 (by decide) rfl rfl ?_
      obtain ⟨i14, e15, h16⟩ := ob h13
      refine GX_iinc hC i14 [some (.int of1), some (.int n2), some (.int v11), some (.int i14)] dX10_power_13 rfl (oi e15) (by decide) rfl rfl ?_
      refine GX_goto hC 4 dX10_power_16 (by decide) ?_
      exact hI6 _ (oi h16).symm
    · skip
      have h17 := ifN q hx6
      exact GX.le (hJ6 _ (hO6 _ (oi h17).symm)) ⟨rfl, ⟨rfl, ⟨rfl, trivial⟩⟩⟩
  intro v9 q18
  subst q18
  refine GX_iload_n hC dX10_power_19 rfl ?_
  exact GX_iretR hC hR dX10_power_20 (oi h5)
set_option maxRecDepth 100000 in
set_option maxHeartbeats 4000000 in
theorem C_M_spread {l : Launch} {number1 : Int32} {of2 : Int32} {m3 : MI} {mr : MI}  (hf : M_spread number1 of2 m3 = some mr) : Cn l yX10_spread cX10_spread 5 none 0 LAY (fun ad => .ref (ad 62) :: [.int number1, .int of2]) m3 (fun _ => none) mr := by
  refine Cn.of (fun ad => [some (.ref (ad 62)), some (.int number1), some (.int of2), none, none]) (by decide +kernel) (fun _ => rfl) (fun _ => Nat.le_of_ble_eq_true rfl) (fun Γ hl hC hR hk => ?_)
  subst hl
  replace hC : CX Γ cX10_spread RX10 LAY 0 5 := hC
  dsimp only [M_spread] at hf
  refine GX_iload_n hC dX10_spread_0 rfl ?_
  refine GX_istore_n hC [some (.ref (gad Γ 62)), some (.int number1), some (.int of2), some (.int number1), none] dX10_spread_1 (by decide) rfl rfl ?_
  refine GX_aload_n hC dX10_spread_2 rfl ?_
  refine GX_getI hC fkX10_103 ol_62 rfl dX10_spread_3 ?_
  refine GX_iconst hC 1 dX10_spread_6 rfl ?_
  refine GX_isub hC dX10_spread_7 ?_
  obtain ⟨f4, e5, h6⟩ := ob hf
  refine GX_nm (oi e5) ?_
  refine GX_istore hC [some (.ref (gad Γ 62)), some (.int number1), some (.int of2), some (.int number1), some (.int f4)] dX10_spread_8 (by decide) rfl rfl ?_
  obtain ⟨o7, e8, h9⟩ := ob h6
  suffices hJ10 : ∀ (rest14 : Int32) (m15 : MI), (rest14, m15) = o7 → GX Γ LAY 0 0 [some (.ref (gad Γ 62)), some (.int number1), some (.int of2), some (.int rest14), none] [] m15 35 by
    refine lp_walk (P := fun s => GX Γ LAY 0 0 [some (.ref (gad Γ 62)), some (.int number1), some (.int of2), some (.int s.1), some (.int s.2.1)] [] s.2.2 10) (fun s x hx10 hI10 hO10 => ?_) _ _ e8
    obtain ⟨rest11, f12, m13⟩ := s
    show GX Γ LAY 0 0 [some (.ref (gad Γ 62)), some (.int number1), some (.int of2), some (.int rest11), some (.int f12)] [] m13 10
    dsimp only [M_spread_s1] at hx10
    refine GX_iload hC dX10_spread_10 rfl ?_
    refine GX_if_lt_N hC 35 dX10_spread_12 (by decide) (fun q => ?_) (fun q => ?_)
    · skip
      have h16 := ifP q hx10
      refine GX_aload_n hC dX10_spread_15 rfl ?_
      refine GX_getR hC fkX10_49 ol_62 rfl dX10_spread_16 ?_
      refine GX_iload hC dX10_spread_19 rfl ?_
      refine GX_iload_n hC dX10_spread_21 rfl ?_
      refine GX_iload_n hC dX10_spread_22 rfl ?_
      obtain ⟨q17, e18, h19⟩ := ob h16
      refine GX_rmO hC e18 dX10_spread_23 ?_
      obtain ⟨m20, e21, h22⟩ := ob h19
      refine GX_stA hC e21 al_76 dX10_spread_24 ?_
      refine GX_iload_n hC dX10_spread_25 rfl ?_
      refine GX_iload_n hC dX10_spread_26 rfl ?_
      obtain ⟨q23, e24, h25⟩ := ob h22
      refine GX_dv hC e24 dX10_spread_27 ?_
      refine GX_istore_n hC [some (.ref (gad Γ 62)), some (.int number1), some (.int of2), some (.int q23), some (.int f12)] dX10_spread_28 (by decide) rfl rfl ?_
      obtain ⟨i26, e27, h28⟩ := ob h25
      refine GX_iinc hC i26 [some (.ref (gad Γ 62)), some (.int number1), some (.int of2), some (.int q23), some (.int i26)] dX10_spread_29 rfl (oi e27) (by decide) rfl rfl ?_
      refine GX_goto hC 10 dX10_spread_32 (by decide) ?_
      exact hI10 _ (oi h28).symm
    · skip
      have h29 := ifN q hx10
      exact GX.le (hJ10 _ _ (hO10 _ (oi h29).symm)) ⟨rfl, ⟨rfl, ⟨rfl, ⟨rfl, trivial⟩⟩⟩⟩
  intro rest14 m15 q30
  subst q30
  exact GX_vretW hC hR dX10_spread_35 (oi h9)
set_option maxRecDepth 100000 in
set_option maxHeartbeats 4000000 in
theorem C_M_isColouring {l : Launch} {m1 : MI} {r0 : Bool}  (hf : M_isColouring m1 = some r0) : Cn l yX10_isColouring cX10_isColouring 4 (some .boolean) 1 LAY (fun ad => .ref (ad 62) :: []) m1 (fun _ => some (.int (bI r0))) m1 := by
  refine Cn.of (fun ad => [some (.ref (ad 62)), none, none, none]) (by decide +kernel) (fun _ => rfl) (fun _ => Nat.le_of_ble_eq_true rfl) (fun Γ hl hC hR hk => ?_)
  subst hl
  replace hC : CX Γ cX10_isColouring RX10 LAY 1 4 := hC
  dsimp only [M_isColouring] at hf
  refine GX_iconst hC (bI true) dX10_isColouring_0 rfl ?_
  refine GX_istore_n hC [some (.ref (gad Γ 62)), some (.int (bI true)), none, none] dX10_isColouring_1 (by decide) rfl rfl ?_
  refine GX_iconst hC 0 dX10_isColouring_2 rfl ?_
  refine GX_istore_n hC [some (.ref (gad Γ 62)), some (.int (bI true)), some (.int 0), none] dX10_isColouring_3 (by decide) rfl rfl ?_
  obtain ⟨o2, e3, h4⟩ := ob hf
  suffices hJ5 : ∀ (x8 : Bool), x8 = o2 → GX Γ LAY 0 0 [some (.ref (gad Γ 62)), some (.int (bI x8)), none, none] [] m1 65 by
    refine lp_walk (P := fun s => GX Γ LAY 0 0 [some (.ref (gad Γ 62)), some (.int (bI s.1)), some (.int s.2), none] [] m1 4) (fun s x hx5 hI5 hO5 => ?_) _ _ e3
    obtain ⟨x6, a7⟩ := s
    show GX Γ LAY 0 0 [some (.ref (gad Γ 62)), some (.int (bI x6)), some (.int a7), none] [] m1 4
    dsimp only [M_isColouring_s1] at hx5
    refine GX_iload_n hC dX10_isColouring_4 rfl ?_
    refine GX_aload_n hC dX10_isColouring_5 rfl ?_
    refine GX_getI hC fkX10_103 ol_62 rfl dX10_isColouring_6 ?_
    refine GX_icmp_ge_N hC 65 dX10_isColouring_9 (by decide) (fun q => ?_) (fun q => ?_)
    · skip
      have h9 := ifP q hx5
      refine GX_iconst hC 0 dX10_isColouring_12 rfl ?_
      refine GX_istore_n hC [some (.ref (gad Γ 62)), some (.int (bI x6)), some (.int a7), some (.int 0)] dX10_isColouring_13 (by decide) rfl rfl ?_
      obtain ⟨o10, e11, h12⟩ := ob h9
      suffices hJ13 : ∀ (x16 : Bool), x16 = o10 → GX Γ LAY 0 0 [some (.ref (gad Γ 62)), some (.int (bI x16)), some (.int a7), none] [] m1 59 by
        refine lp_walk (P := fun s => GX Γ LAY 0 0 [some (.ref (gad Γ 62)), some (.int (bI s.1)), some (.int a7), some (.int s.2)] [] m1 14) (fun s x hx13 hI13 hO13 => ?_) _ _ e11
        obtain ⟨x14, b15⟩ := s
        show GX Γ LAY 0 0 [some (.ref (gad Γ 62)), some (.int (bI x14)), some (.int a7), some (.int b15)] [] m1 14
        dsimp only [M_isColouring_s2] at hx13
        refine GX_iload_n hC dX10_isColouring_14 rfl ?_
        refine GX_iload_n hC dX10_isColouring_15 rfl ?_
        refine GX_icmp_ge_N hC 59 dX10_isColouring_16 (by decide) (fun q => ?_) (fun q => ?_)
        · skip
          have h17 := ifP q hx13
          obtain ⟨c18, e19, h20⟩ := ob h17
          suffices hJ21 : GX Γ LAY 0 0 [some (.ref (gad Γ 62)), some (.int (bI x14)), some (.int a7), some (.int b15)] [.int (bI c18)] m1 52 by
            have hc22 : true = c18 → GX Γ LAY 0 0 [some (.ref (gad Γ 62)), some (.int (bI x14)), some (.int a7), some (.int b15)] [] m1 47 := by
              intro q
              subst q
              refine GX_iconst hC (bI true) dX10_isColouring_47 rfl ?_
              refine GX_goto hC 52 dX10_isColouring_48 (by decide) ?_
              exact hJ21
            have hc23 : false = c18 → GX Γ LAY 0 0 [some (.ref (gad Γ 62)), some (.int (bI x14)), some (.int a7), some (.int b15)] [] m1 51 := by
              intro q
              subst q
              refine GX_iconst hC (bI false) dX10_isColouring_51 rfl ?_
              exact hJ21
            refine GX_iload_n hC dX10_isColouring_19 rfl ?_
            refine GX_ifb_eq hC 51 dX10_isColouring_20 (by decide) (fun q => ?_) (fun q => ?_)
            · skip
              have h24 := ifT q e19
              refine GX_aload_n hC dX10_isColouring_23 rfl ?_
              refine GX_getR hC fkX10_49 ol_62 rfl dX10_isColouring_24 ?_
              refine GX_iload_n hC dX10_isColouring_27 rfl ?_
              obtain ⟨x25, e26, h27⟩ := ob h24
              refine GX_ldA hC e26 al_76 dX10_isColouring_28 ?_
              refine GX_aload_n hC dX10_isColouring_29 rfl ?_
              refine GX_getR hC fkX10_49 ol_62 rfl dX10_isColouring_30 ?_
              refine GX_iload_n hC dX10_isColouring_33 rfl ?_
              obtain ⟨x28, e29, h30⟩ := ob h27
              refine GX_ldA hC e29 al_76 dX10_isColouring_34 ?_
              refine GX_icmp_ne_P hC 47 dX10_isColouring_35 (by decide) (fun q => ?_) (fun q => ?_)
              · skip
                have h31 := ifP q h30
                exact hc22 (oi h31)
              · skip
                have h32 := ifN q h30
                refine GX_aload_n hC dX10_isColouring_38 rfl ?_
                refine GX_iload_n hC dX10_isColouring_39 rfl ?_
                refine GX_iload_n hC dX10_isColouring_40 rfl ?_
                obtain ⟨b33, e34, h35⟩ := ob h32
                refine GX_callV_i (st := []) hC (C_M_bars e34) okX10_bars lkX10_119 ol_62 rfl rfl (Nat.le_of_ble_eq_true rfl) (Nat.le_of_ble_eq_true rfl) hk rfl (Nat.le_of_ble_eq_true rfl) dX10_isColouring_41 ?_
                refine GX_ifb_ne hC 51 dX10_isColouring_44 (by decide) (fun q => ?_) (fun q => ?_)
                · skip
                  exact hc23 (cbnT q h35)
                · skip
                  exact hc22 (cbnF q h35)
            · skip
              have h36 := ifF q e19
              exact hc23 (oi h36)
          refine GX_istore_n hC [some (.ref (gad Γ 62)), some (.int (bI c18)), some (.int a7), some (.int b15)] dX10_isColouring_52 (by decide) rfl rfl ?_
          obtain ⟨i37, e38, h39⟩ := ob h20
          refine GX_iinc hC i37 [some (.ref (gad Γ 62)), some (.int (bI c18)), some (.int a7), some (.int i37)] dX10_isColouring_53 rfl (oi e38) (by decide) rfl rfl ?_
          refine GX_goto hC 14 dX10_isColouring_56 (by decide) ?_
          exact hI13 _ (oi h39).symm
        · skip
          have h40 := ifN q hx13
          exact GX.le (hJ13 _ (hO13 _ (oi h40).symm)) ⟨rfl, ⟨rfl, ⟨rfl, trivial⟩⟩⟩
      intro x16 q41
      subst q41
      obtain ⟨i42, e43, h44⟩ := ob h12
      refine GX_iinc hC i42 [some (.ref (gad Γ 62)), some (.int (bI x16)), some (.int i42), none] dX10_isColouring_59 rfl (oi e43) (by decide) rfl rfl ?_
      refine GX_goto hC 4 dX10_isColouring_62 (by decide) ?_
      exact hI5 _ (oi h44).symm
    · skip
      have h45 := ifN q hx5
      exact GX.le (hJ5 _ (hO5 _ (oi h45).symm)) ⟨rfl, ⟨rfl, trivial⟩⟩
  intro x8 q46
  subst q46
  refine GX_iload_n hC dX10_isColouring_65 rfl ?_
  exact GX_zretR hC x8 hR dX10_isColouring_66 (oi h4)
set_option maxRecDepth 100000 in
set_option maxHeartbeats 4000000 in
theorem C_M_fewest {l : Launch} {f1 : Int32} {m2 : MI} {r0 : Int32} {mr : MI}  (hf : M_fewest f1 m2 = some (r0, mr)) : Cn l yX10_fewest cX10_fewest 5 (some .int) 2 LAY (fun ad => .ref (ad 62) :: [.int f1]) m2 (fun _ => some (.int r0)) mr := by
  refine Cn.of (fun ad => [some (.ref (ad 62)), some (.int f1), none, none, none]) (by decide +kernel) (fun _ => rfl) (fun _ => Nat.le_of_ble_eq_true rfl) (fun Γ hl hC hR hk => ?_)
  subst hl
  replace hC : CX Γ cX10_fewest RX10 LAY 2 5 := hC
  dsimp only [M_fewest] at hf
  refine GX_aload_n hC dX10_fewest_0 rfl ?_
  refine GX_iconst hC 0 dX10_fewest_1 rfl ?_
  obtain ⟨m3, e4, h5⟩ := ob hf
  refine GX_stF hC e4 fkX10_99 ftX10_10 ol_62 rfl dX10_fewest_2 ?_
  obtain ⟨c6, e7, h8⟩ := ob h5
  have hc9 : true = c6 → GX Γ LAY 0 0 [some (.ref (gad Γ 62)), some (.int f1), none, none, none] [] m3 18 := by
    intro q
    have h10 := ifT q.symm h8
    refine GX_iconst hC (-1) dX10_fewest_18 rfl ?_
    exact GX_iretW hC hR dX10_fewest_19 (oi h10)
  have hc11 : false = c6 → GX Γ LAY 0 0 [some (.ref (gad Γ 62)), some (.int f1), none, none, none] [] m3 20 := by
    intro q
    have h12 := ifF q.symm h8
    refine GX_iconst hC 0 dX10_fewest_20 rfl ?_
    refine GX_istore_n hC [some (.ref (gad Γ 62)), some (.int f1), some (.int 0), none, none] dX10_fewest_21 (by decide) rfl rfl ?_
    obtain ⟨o13, e14, h15⟩ := ob h12
    have hR16 : ∀ res : Int32 × MI, Sum.inr res = o13 → res = (r0, mr) := by
      intro res q
      subst q
      have h15 := seR h15
      exact (oi h15)
    suffices hJ16 : ∀ (m19 : MI), Sum.inl m19 = o13 → GX Γ LAY 0 0 [some (.ref (gad Γ 62)), some (.int f1), none, none, none] [] m19 97 by
      refine lp_walk (P := fun s => GX Γ LAY 0 0 [some (.ref (gad Γ 62)), some (.int f1), some (.int s.1), none, none] [] s.2 22) (fun s x hx16 hI16 hO16 => ?_) _ _ e14
      obtain ⟨n17, m18⟩ := s
      show GX Γ LAY 0 0 [some (.ref (gad Γ 62)), some (.int f1), some (.int n17), none, none] [] m18 22
      dsimp only [M_fewest_s1] at hx16
      refine GX_iload_n hC dX10_fewest_22 rfl ?_
      refine GX_aload_n hC dX10_fewest_23 rfl ?_
      refine GX_getI hC fkX10_103 ol_62 rfl dX10_fewest_24 ?_
      refine GX_icmp_gt_N hC 97 dX10_fewest_27 (by decide) (fun q => ?_) (fun q => ?_)
      · skip
        have h20 := ifP q hx16
        refine GX_iload_n hC dX10_fewest_30 rfl ?_
        refine GX_aload_n hC dX10_fewest_31 rfl ?_
        refine GX_getI hC fkX10_103 ol_62 rfl dX10_fewest_32 ?_
        obtain ⟨r21, e22, h23⟩ := ob h20
        refine GX_callS_i (st := []) hC (C_M_power e22) okX10_power lkX10_257 rfl (Nat.le_of_ble_eq_true rfl) (Nat.le_of_ble_eq_true rfl) hk rfl (Nat.le_of_ble_eq_true rfl) dX10_fewest_35 ?_
        refine GX_istore_n hC [some (.ref (gad Γ 62)), some (.int f1), some (.int n17), some (.int r21), none] dX10_fewest_38 (by decide) rfl rfl ?_
        refine GX_iconst hC 0 dX10_fewest_39 rfl ?_
        refine GX_istore hC [some (.ref (gad Γ 62)), some (.int f1), some (.int n17), some (.int r21), some (.int 0)] dX10_fewest_40 (by decide) rfl rfl ?_
        obtain ⟨o24, e25, h26⟩ := ob h23
        have hR27 : ∀ res : Int32 × MI, Sum.inr res = o24 → res = (r0, mr) := by
          intro res q
          subst q
          have h26 := seR h26
          exact (hR16 _ (hO16 _ (oi h26).symm))
        suffices hJ27 : ∀ (m30 : MI), Sum.inl m30 = o24 → GX Γ LAY 0 0 [some (.ref (gad Γ 62)), some (.int f1), some (.int n17), some (.int r21), none] [] m30 91 by
          refine lp_walk (P := fun s => GX Γ LAY 0 0 [some (.ref (gad Γ 62)), some (.int f1), some (.int n17), some (.int r21), some (.int s.1)] [] s.2 42) (fun s x hx27 hI27 hO27 => ?_) _ _ e25
          obtain ⟨number28, m29⟩ := s
          show GX Γ LAY 0 0 [some (.ref (gad Γ 62)), some (.int f1), some (.int n17), some (.int r21), some (.int number28)] [] m29 42
          dsimp only [M_fewest_s2] at hx27
          refine GX_iload hC dX10_fewest_42 rfl ?_
          refine GX_iload_n hC dX10_fewest_44 rfl ?_
          refine GX_icmp_ge_N hC 91 dX10_fewest_45 (by decide) (fun q => ?_) (fun q => ?_)
          · skip
            have h31 := ifP q hx27
            refine GX_aload_n hC dX10_fewest_48 rfl ?_
            refine GX_iload hC dX10_fewest_49 rfl ?_
            obtain ⟨x32, e33, h34⟩ := ob h31
            suffices hJ35 : GX Γ LAY 0 0 [some (.ref (gad Γ 62)), some (.int f1), some (.int n17), some (.int r21), some (.int number28)] [.int x32, .int number28, .ref (gad Γ 62)] m29 60 by
              refine GX_iload_n hC dX10_fewest_51 rfl ?_
              refine GX_if_ne_N hC 59 dX10_fewest_52 (by decide) (fun q => ?_) (fun q => ?_)
              · skip
                have h36 := ifP q e33
                refine GX_iconst hC 1 dX10_fewest_55 rfl ?_
                refine GX_goto hC 60 dX10_fewest_56 (by decide) ?_
                exact GX_nm (oi h36) hJ35
              · skip
                have h37 := ifN q e33
                refine GX_iload_n hC dX10_fewest_59 rfl ?_
                exact GX_nm (oi h37) hJ35
            obtain ⟨m38, e39, h40⟩ := ob h34
            refine GX_callV_v (st := []) hC (C_M_spread e39) okX10_spread lkX10_261 ol_62 rfl rfl (Nat.le_of_ble_eq_true rfl) (Nat.le_of_ble_eq_true rfl) hk rfl (Nat.le_of_ble_eq_true rfl) dX10_fewest_60 ?_
            refine GX_aload_n hC dX10_fewest_63 rfl ?_
            obtain ⟨b41, e42, h43⟩ := ob h40
            refine GX_callV_i (st := []) hC (C_M_isColouring e42) okX10_isColouring lkX10_264 ol_62 rfl rfl (Nat.le_of_ble_eq_true rfl) (Nat.le_of_ble_eq_true rfl) hk rfl (Nat.le_of_ble_eq_true rfl) dX10_fewest_64 ?_
            refine GX_ifb_eq hC 85 dX10_fewest_67 (by decide) (fun q => ?_) (fun q => ?_)
            · skip
              have h44 := ifT q h43
              obtain ⟨x45, e46, h47⟩ := ob h44
              suffices hJ48 : GX Γ LAY 0 0 [some (.ref (gad Γ 62)), some (.int f1), some (.int n17), some (.int r21), some (.int number28)] [.int x45] m38 84 by
                refine GX_iload_n hC dX10_fewest_70 rfl ?_
                refine GX_if_ge_N hC 78 dX10_fewest_71 (by decide) (fun q => ?_) (fun q => ?_)
                · skip
                  have h49 := ifP q e46
                  refine GX_iload_n hC dX10_fewest_74 rfl ?_
                  refine GX_goto hC 84 dX10_fewest_75 (by decide) ?_
                  exact GX_nm (oi h49) hJ48
                · skip
                  have h50 := ifN q e46
                  refine GX_aload_n hC dX10_fewest_78 rfl ?_
                  refine GX_getR hC fkX10_49 ol_62 rfl dX10_fewest_79 ?_
                  refine GX_iload_n hC dX10_fewest_82 rfl ?_
                  obtain ⟨x51, e52, h53⟩ := ob h50
                  refine GX_ldA hC e52 al_76 dX10_fewest_83 ?_
                  exact GX_nm (oi h53) hJ48
              exact GX_iretW hC hR dX10_fewest_84 (hR27 _ (hO27 _ (oi h47).symm))
            · skip
              have h54 := ifF q h43
              obtain ⟨i55, e56, h57⟩ := ob h54
              refine GX_iinc hC i55 [some (.ref (gad Γ 62)), some (.int f1), some (.int n17), some (.int r21), some (.int i55)] dX10_fewest_85 rfl (oi e56) (by decide) rfl rfl ?_
              refine GX_goto hC 42 dX10_fewest_88 (by decide) ?_
              exact hI27 _ (oi h57).symm
          · skip
            have h58 := ifN q hx27
            exact GX.le (hJ27 _ (hO27 _ (oi h58).symm)) ⟨rfl, ⟨rfl, ⟨rfl, ⟨rfl, trivial⟩⟩⟩⟩
        intro m30 q59
        subst q59
        have h26 := seL h26
        obtain ⟨i60, e61, h62⟩ := ob h26
        refine GX_iinc hC i60 [some (.ref (gad Γ 62)), some (.int f1), some (.int i60), some (.int r21), none] dX10_fewest_91 rfl (oi e61) (by decide) rfl rfl ?_
        refine GX_goto hC 22 dX10_fewest_94 (by decide) ?_
        exact GX.le (hI16 _ (oi h62).symm) ⟨rfl, ⟨rfl, ⟨rfl, trivial⟩⟩⟩
      · skip
        have h64 := ifN q hx16
        exact GX.le (hJ16 _ (hO16 _ (oi h64).symm)) ⟨rfl, ⟨rfl, trivial⟩⟩
    intro m19 q65
    subst q65
    have h15 := seL h15
    refine GX_iconst hC 0 dX10_fewest_97 rfl ?_
    exact GX_iretW hC hR dX10_fewest_98 (oi h15)
  refine GX_iload_n hC dX10_fewest_5 rfl ?_
  refine GX_iconst hC (-1) dX10_fewest_6 rfl ?_
  refine GX_icmp_eq_N hC 20 dX10_fewest_7 (by decide) (fun q => ?_) (fun q => ?_)
  · skip
    have h67 := ifP q e7
    refine GX_aload_n hC dX10_fewest_10 rfl ?_
    refine GX_iload_n hC dX10_fewest_11 rfl ?_
    obtain ⟨b68, e69, h70⟩ := ob h67
    refine GX_callV_i (st := []) hC (C_M_isField e69) okX10_isField lkX10_178 ol_62 rfl rfl (Nat.le_of_ble_eq_true rfl) (Nat.le_of_ble_eq_true rfl) hk rfl (Nat.le_of_ble_eq_true rfl) dX10_fewest_12 ?_
    refine GX_ifb_ne hC 20 dX10_fewest_15 (by decide) (fun q => ?_) (fun q => ?_)
    · skip
      exact hc11 (cbnT q h70)
    · skip
      exact hc9 (cbnF q h70)
  · skip
    have h71 := ifN q e7
    exact hc11 (oi h71)
set_option maxRecDepth 100000 in
set_option maxHeartbeats 4000000 in
theorem C_M_most {l : Launch} {p1 : Int32} {what2 : Int32} {m3 : MI} {r0 : Int32} {mr : MI}  (hf : M_most p1 what2 m3 = some (r0, mr)) : Cn l yX10_most cX10_most 10 (some .int) 2 LAY (fun ad => .ref (ad 62) :: [.int p1, .int what2]) m3 (fun _ => some (.int r0)) mr := by
  refine Cn.of (fun ad => [some (.ref (ad 62)), some (.int p1), some (.int what2), none, none, none, none, none, none, none]) (by decide +kernel) (fun _ => rfl) (fun _ => Nat.le_of_ble_eq_true rfl) (fun Γ hl hC hR hk => ?_)
  subst hl
  replace hC : CX Γ cX10_most RX10 LAY 2 10 := hC
  dsimp only [M_most] at hf
  refine GX_aload_n hC dX10_most_0 rfl ?_
  refine GX_iconst hC 0 dX10_most_1 rfl ?_
  obtain ⟨m4, e5, h6⟩ := ob hf
  refine GX_stF hC e5 fkX10_99 ftX10_10 ol_62 rfl dX10_most_2 ?_
  obtain ⟨c7, e8, h9⟩ := ob h6
  have hc10 : true = c7 → GX Γ LAY 0 0 [some (.ref (gad Γ 62)), some (.int p1), some (.int what2), none, none, none, none, none, none, none] [] m4 23 := by
    intro q
    have h11 := ifT q.symm h9
    refine GX_iconst hC (-1) dX10_most_23 rfl ?_
    exact GX_iretW hC hR dX10_most_24 (oi h11)
  have hc12 : false = c7 → GX Γ LAY 0 0 [some (.ref (gad Γ 62)), some (.int p1), some (.int what2), none, none, none, none, none, none, none] [] m4 25 := by
    intro q
    have h13 := ifF q.symm h9
    refine GX_iconst hC 0 dX10_most_25 rfl ?_
    refine GX_istore_n hC [some (.ref (gad Γ 62)), some (.int p1), some (.int what2), some (.int 0), none, none, none, none, none, none] dX10_most_26 (by decide) rfl rfl ?_
    refine GX_iconst hC 0 dX10_most_27 rfl ?_
    refine GX_istore hC [some (.ref (gad Γ 62)), some (.int p1), some (.int what2), some (.int 0), some (.int 0), none, none, none, none, none] dX10_most_28 (by decide) rfl rfl ?_
    refine GX_iconst hC 1 dX10_most_30 rfl ?_
    refine GX_istore hC [some (.ref (gad Γ 62)), some (.int p1), some (.int what2), some (.int 0), some (.int 0), some (.int 1), none, none, none, none] dX10_most_31 (by decide) rfl rfl ?_
    obtain ⟨o14, e15, h16⟩ := ob h13
    suffices hJ17 : ∀ (best21 : Int32) (top22 : Int32), (best21, top22) = o14 → GX Γ LAY 0 0 [some (.ref (gad Γ 62)), some (.int p1), some (.int what2), some (.int best21), some (.int top22), none, none, none, none, none] [] m4 205 by
      refine lp_walk (P := fun s => GX Γ LAY 0 0 [some (.ref (gad Γ 62)), some (.int p1), some (.int what2), some (.int s.1), some (.int s.2.1), some (.int s.2.2), none, none, none, none] [] m4 33) (fun s x hx17 hI17 hO17 => ?_) _ _ e15
      obtain ⟨best18, top19, set20⟩ := s
      show GX Γ LAY 0 0 [some (.ref (gad Γ 62)), some (.int p1), some (.int what2), some (.int best18), some (.int top19), some (.int set20), none, none, none, none] [] m4 33
      dsimp only [M_most_s1] at hx17
      refine GX_iload hC dX10_most_33 rfl ?_
      refine GX_iconst hC 1 dX10_most_35 rfl ?_
      refine GX_aload_n hC dX10_most_36 rfl ?_
      refine GX_getI hC fkX10_103 ol_62 rfl dX10_most_37 ?_
      refine GX_ishl hC dX10_most_40 ?_
      refine GX_icmp_ge_N hC 205 dX10_most_41 (by decide) (fun q => ?_) (fun q => ?_)
      · skip
        have h23 := ifP q hx17
        refine GX_iconst hC (bI true) dX10_most_44 rfl ?_
        refine GX_istore hC [some (.ref (gad Γ 62)), some (.int p1), some (.int what2), some (.int best18), some (.int top19), some (.int set20), some (.int (bI true)), none, none, none] dX10_most_45 (by decide) rfl rfl ?_
        refine GX_iconst hC 0 dX10_most_47 rfl ?_
        refine GX_istore hC [some (.ref (gad Γ 62)), some (.int p1), some (.int what2), some (.int best18), some (.int top19), some (.int set20), some (.int (bI true)), some (.int 0), none, none] dX10_most_48 (by decide) rfl rfl ?_
        refine GX_iconst hC 0 dX10_most_50 rfl ?_
        refine GX_istore hC [some (.ref (gad Γ 62)), some (.int p1), some (.int what2), some (.int best18), some (.int top19), some (.int set20), some (.int (bI true)), some (.int 0), some (.int 0), none] dX10_most_51 (by decide) rfl rfl ?_
        obtain ⟨o24, e25, h26⟩ := ob h23
        suffices hJ27 : ∀ (may31 : Bool) (sum32 : Int32), (may31, sum32) = o24 → GX Γ LAY 0 0 [some (.ref (gad Γ 62)), some (.int p1), some (.int what2), some (.int best18), some (.int top19), some (.int set20), some (.int (bI may31)), some (.int sum32), none, none] [] m4 180 by
          refine lp_walk (P := fun s => GX Γ LAY 0 0 [some (.ref (gad Γ 62)), some (.int p1), some (.int what2), some (.int best18), some (.int top19), some (.int set20), some (.int (bI s.1)), some (.int s.2.1), some (.int s.2.2), none] [] m4 53) (fun s x hx27 hI27 hO27 => ?_) _ _ e25
          obtain ⟨may28, sum29, a30⟩ := s
          show GX Γ LAY 0 0 [some (.ref (gad Γ 62)), some (.int p1), some (.int what2), some (.int best18), some (.int top19), some (.int set20), some (.int (bI may28)), some (.int sum29), some (.int a30), none] [] m4 53
          dsimp only [M_most_s2] at hx27
          obtain ⟨c33, e34, h35⟩ := ob hx27
          have hc36 : true = c33 → GX Γ LAY 0 0 [some (.ref (gad Γ 62)), some (.int p1), some (.int what2), some (.int best18), some (.int top19), some (.int set20), some (.int (bI may28)), some (.int sum29), some (.int a30), none] [] m4 67 := by
            intro q
            have h37 := ifT q.symm h35
            obtain ⟨o38, e39, h40⟩ := ob h37
            suffices hJ43 : ∀ (may41 : Bool) (sum42 : Int32), (may41, sum42) = o38 → GX Γ LAY 0 0 [some (.ref (gad Γ 62)), some (.int p1), some (.int what2), some (.int best18), some (.int top19), some (.int set20), some (.int (bI may41)), some (.int sum42), some (.int a30), none] [] m4 174 by
              refine GX_iload hC dX10_most_67 rfl ?_
              refine GX_iload hC dX10_most_69 rfl ?_
              refine GX_ishr hC dX10_most_71 ?_
              refine GX_iconst hC 1 dX10_most_72 rfl ?_
              refine GX_iand hC dX10_most_73 ?_
              refine GX_iconst hC 1 dX10_most_74 rfl ?_
              refine GX_icmp_ne_N hC 174 dX10_most_75 (by decide) (fun q => ?_) (fun q => ?_)
              · skip
                have h44 := ifP q e39
                refine GX_iload hC dX10_most_78 rfl ?_
                refine GX_aload_n hC dX10_most_80 rfl ?_
                refine GX_getR hC fkX10_22 ol_62 rfl dX10_most_81 ?_
                refine GX_bipush hC 6 dX10_most_84 rfl ?_
                refine GX_iload_n hC dX10_most_86 rfl ?_
                refine GX_imul hC dX10_most_87 ?_
                refine GX_iload hC dX10_most_88 rfl ?_
                refine GX_iadd hC dX10_most_90 ?_
                obtain ⟨x45, e46, h47⟩ := ob h44
                refine GX_ldA hC e46 al_67 dX10_most_91 ?_
                refine GX_iadd hC dX10_most_92 ?_
                obtain ⟨sum48, e49, h50⟩ := ob h47
                refine GX_nm (oi e49) ?_
                refine GX_istore hC [some (.ref (gad Γ 62)), some (.int p1), some (.int what2), some (.int best18), some (.int top19), some (.int set20), some (.int (bI may28)), some (.int sum48), some (.int a30), none] dX10_most_93 (by decide) rfl rfl ?_
                obtain ⟨c51, e52, h53⟩ := ob h50
                suffices hJ54 : GX Γ LAY 0 0 [some (.ref (gad Γ 62)), some (.int p1), some (.int what2), some (.int best18), some (.int top19), some (.int set20), some (.int (bI may28)), some (.int sum48), some (.int a30), none] [.int (bI c51)] m4 123 by
                  have hc55 : true = c51 → GX Γ LAY 0 0 [some (.ref (gad Γ 62)), some (.int p1), some (.int what2), some (.int best18), some (.int top19), some (.int set20), some (.int (bI may28)), some (.int sum48), some (.int a30), none] [] m4 118 := by
                    intro q
                    subst q
                    refine GX_iconst hC (bI true) dX10_most_118 rfl ?_
                    refine GX_goto hC 123 dX10_most_119 (by decide) ?_
                    exact hJ54
                  have hc56 : false = c51 → GX Γ LAY 0 0 [some (.ref (gad Γ 62)), some (.int p1), some (.int what2), some (.int best18), some (.int top19), some (.int set20), some (.int (bI may28)), some (.int sum48), some (.int a30), none] [] m4 122 := by
                    intro q
                    subst q
                    refine GX_iconst hC (bI false) dX10_most_122 rfl ?_
                    exact hJ54
                  refine GX_aload_n hC dX10_most_95 rfl ?_
                  refine GX_getR hC fkX10_25 ol_62 rfl dX10_most_96 ?_
                  refine GX_iload hC dX10_most_99 rfl ?_
                  obtain ⟨x57, e58, h59⟩ := ob e52
                  refine GX_ldA hC e58 al_68 dX10_most_101 ?_
                  refine GX_if_eq_P hC 118 dX10_most_102 (by decide) (fun q => ?_) (fun q => ?_)
                  · skip
                    have h60 := ifP q h59
                    exact hc55 (oi h60)
                  · skip
                    have h61 := ifN q h59
                    refine GX_aload_n hC dX10_most_105 rfl ?_
                    refine GX_getR hC fkX10_25 ol_62 rfl dX10_most_106 ?_
                    refine GX_iload hC dX10_most_109 rfl ?_
                    obtain ⟨x62, e63, h64⟩ := ob h61
                    refine GX_ldA hC e63 al_68 dX10_most_111 ?_
                    refine GX_iload_n hC dX10_most_112 rfl ?_
                    refine GX_iconst hC 1 dX10_most_113 rfl ?_
                    refine GX_iadd hC dX10_most_114 ?_
                    refine GX_icmp_ne_N hC 122 dX10_most_115 (by decide) (fun q => ?_) (fun q => ?_)
                    · skip
                      exact hc55 (cdT q h64)
                    · skip
                      exact hc56 (cdF q h64)
                refine GX_istore hC [some (.ref (gad Γ 62)), some (.int p1), some (.int what2), some (.int best18), some (.int top19), some (.int set20), some (.int (bI c51)), some (.int sum48), some (.int a30), none] dX10_most_123 (by decide) rfl rfl ?_
                refine GX_iconst hC 0 dX10_most_125 rfl ?_
                refine GX_istore hC [some (.ref (gad Γ 62)), some (.int p1), some (.int what2), some (.int best18), some (.int top19), some (.int set20), some (.int (bI c51)), some (.int sum48), some (.int a30), some (.int 0)] dX10_most_126 (by decide) rfl rfl ?_
                obtain ⟨o65, e66, h67⟩ := ob h53
                suffices hJ68 : ∀ (may71 : Bool), may71 = o65 → GX Γ LAY 0 0 [some (.ref (gad Γ 62)), some (.int p1), some (.int what2), some (.int best18), some (.int top19), some (.int set20), some (.int (bI may71)), some (.int sum48), some (.int a30), none] [] m4 174 by
                  refine lp_walk (P := fun s => GX Γ LAY 0 0 [some (.ref (gad Γ 62)), some (.int p1), some (.int what2), some (.int best18), some (.int top19), some (.int set20), some (.int (bI s.1)), some (.int sum48), some (.int a30), some (.int s.2)] [] m4 128) (fun s x hx68 hI68 hO68 => ?_) _ _ e66
                  obtain ⟨may69, b70⟩ := s
                  show GX Γ LAY 0 0 [some (.ref (gad Γ 62)), some (.int p1), some (.int what2), some (.int best18), some (.int top19), some (.int set20), some (.int (bI may69)), some (.int sum48), some (.int a30), some (.int b70)] [] m4 128
                  dsimp only [M_most_s3] at hx68
                  refine GX_iload hC dX10_most_128 rfl ?_
                  refine GX_iload hC dX10_most_130 rfl ?_
                  refine GX_icmp_ge_N hC 174 dX10_most_132 (by decide) (fun q => ?_) (fun q => ?_)
                  · skip
                    have h72 := ifP q hx68
                    obtain ⟨c73, e74, h75⟩ := ob h72
                    suffices hJ76 : GX Γ LAY 0 0 [some (.ref (gad Γ 62)), some (.int p1), some (.int what2), some (.int best18), some (.int top19), some (.int set20), some (.int (bI may69)), some (.int sum48), some (.int a30), some (.int b70)] [.int (bI c73)] m4 166 by
                      have hc77 : true = c73 → GX Γ LAY 0 0 [some (.ref (gad Γ 62)), some (.int p1), some (.int what2), some (.int best18), some (.int top19), some (.int set20), some (.int (bI may69)), some (.int sum48), some (.int a30), some (.int b70)] [] m4 161 := by
                        intro q
                        subst q
                        refine GX_iconst hC (bI true) dX10_most_161 rfl ?_
                        refine GX_goto hC 166 dX10_most_162 (by decide) ?_
                        exact hJ76
                      have hc78 : false = c73 → GX Γ LAY 0 0 [some (.ref (gad Γ 62)), some (.int p1), some (.int what2), some (.int best18), some (.int top19), some (.int set20), some (.int (bI may69)), some (.int sum48), some (.int a30), some (.int b70)] [] m4 165 := by
                        intro q
                        subst q
                        refine GX_iconst hC (bI false) dX10_most_165 rfl ?_
                        exact hJ76
                      refine GX_iload hC dX10_most_135 rfl ?_
                      refine GX_ifb_eq hC 165 dX10_most_137 (by decide) (fun q => ?_) (fun q => ?_)
                      · skip
                        have h79 := ifT q e74
                        refine GX_iload hC dX10_most_140 rfl ?_
                        refine GX_iload hC dX10_most_142 rfl ?_
                        refine GX_ishr hC dX10_most_144 ?_
                        refine GX_iconst hC 1 dX10_most_145 rfl ?_
                        refine GX_iand hC dX10_most_146 ?_
                        refine GX_if_eq_P hC 161 dX10_most_147 (by decide) (fun q => ?_) (fun q => ?_)
                        · skip
                          have h80 := ifP q h79
                          exact hc77 (oi h80)
                        · skip
                          have h81 := ifN q h79
                          refine GX_aload_n hC dX10_most_150 rfl ?_
                          refine GX_iload hC dX10_most_151 rfl ?_
                          refine GX_iload hC dX10_most_153 rfl ?_
                          obtain ⟨b82, e83, h84⟩ := ob h81
                          refine GX_callV_i (st := []) hC (C_M_bars e83) okX10_bars lkX10_119 ol_62 rfl rfl (Nat.le_of_ble_eq_true rfl) (Nat.le_of_ble_eq_true rfl) hk rfl (Nat.le_of_ble_eq_true rfl) dX10_most_155 ?_
                          refine GX_ifb_ne hC 165 dX10_most_158 (by decide) (fun q => ?_) (fun q => ?_)
                          · skip
                            exact hc78 (cbnT q h84)
                          · skip
                            exact hc77 (cbnF q h84)
                      · skip
                        have h85 := ifF q e74
                        exact hc78 (oi h85)
                    refine GX_istore hC [some (.ref (gad Γ 62)), some (.int p1), some (.int what2), some (.int best18), some (.int top19), some (.int set20), some (.int (bI c73)), some (.int sum48), some (.int a30), some (.int b70)] dX10_most_166 (by decide) rfl rfl ?_
                    obtain ⟨i86, e87, h88⟩ := ob h75
                    refine GX_iinc hC i86 [some (.ref (gad Γ 62)), some (.int p1), some (.int what2), some (.int best18), some (.int top19), some (.int set20), some (.int (bI c73)), some (.int sum48), some (.int a30), some (.int i86)] dX10_most_168 rfl (oi e87) (by decide) rfl rfl ?_
                    refine GX_goto hC 128 dX10_most_171 (by decide) ?_
                    exact hI68 _ (oi h88).symm
                  · skip
                    have h89 := ifN q hx68
                    exact GX.le (hJ68 _ (hO68 _ (oi h89).symm)) ⟨rfl, ⟨rfl, ⟨rfl, ⟨rfl, ⟨rfl, ⟨rfl, ⟨rfl, ⟨rfl, ⟨rfl, trivial⟩⟩⟩⟩⟩⟩⟩⟩⟩
                intro may71 q90
                subst q90
                exact (hJ43 _ _ (oi h67))
              · skip
                have h91 := ifN q e39
                exact (hJ43 _ _ (oi h91))
            intro may41 sum42 q92
            subst q92
            obtain ⟨i93, e94, h95⟩ := ob h40
            refine GX_iinc hC i93 [some (.ref (gad Γ 62)), some (.int p1), some (.int what2), some (.int best18), some (.int top19), some (.int set20), some (.int (bI may41)), some (.int sum42), some (.int i93), none] dX10_most_174 rfl (oi e94) (by decide) rfl rfl ?_
            refine GX_goto hC 53 dX10_most_177 (by decide) ?_
            exact hI27 _ (oi h95).symm
          have hc96 : false = c33 → GX Γ LAY 0 0 [some (.ref (gad Γ 62)), some (.int p1), some (.int what2), some (.int best18), some (.int top19), some (.int set20), some (.int (bI may28)), some (.int sum29), some (.int a30), none] [] m4 180 := by
            intro q
            have h97 := ifF q.symm h35
            exact GX.le (hJ27 _ _ (hO27 _ (oi h97).symm)) ⟨rfl, ⟨rfl, ⟨rfl, ⟨rfl, ⟨rfl, ⟨rfl, ⟨rfl, ⟨rfl, trivial⟩⟩⟩⟩⟩⟩⟩⟩
          refine GX_iload hC dX10_most_53 rfl ?_
          refine GX_aload_n hC dX10_most_55 rfl ?_
          refine GX_getI hC fkX10_103 ol_62 rfl dX10_most_56 ?_
          refine GX_icmp_ge_N hC 180 dX10_most_59 (by decide) (fun q => ?_) (fun q => ?_)
          · skip
            have h98 := ifP q e34
            refine GX_iload hC dX10_most_62 rfl ?_
            refine GX_ifb_eq hC 180 dX10_most_64 (by decide) (fun q => ?_) (fun q => ?_)
            · skip
              exact hc36 (cbT q h98)
            · skip
              exact hc96 (cbF q h98)
          · skip
            have h99 := ifN q e34
            exact hc96 (oi h99)
        intro may31 sum32 q100
        subst q100
        obtain ⟨o101, e102, h103⟩ := ob h26
        suffices hJ106 : ∀ (best104 : Int32) (top105 : Int32), (best104, top105) = o101 → GX Γ LAY 0 0 [some (.ref (gad Γ 62)), some (.int p1), some (.int what2), some (.int best104), some (.int top105), some (.int set20), some (.int (bI may31)), some (.int sum32), none, none] [] m4 199 by
          obtain ⟨c107, e108, h109⟩ := ob e102
          have hc110 : true = c107 → GX Γ LAY 0 0 [some (.ref (gad Γ 62)), some (.int p1), some (.int what2), some (.int best18), some (.int top19), some (.int set20), some (.int (bI may31)), some (.int sum32), none, none] [] m4 192 := by
            intro q
            have h111 := ifT q.symm h109
            refine GX_iload hC dX10_most_192 rfl ?_
            refine GX_istore_n hC [some (.ref (gad Γ 62)), some (.int p1), some (.int what2), some (.int set20), some (.int top19), some (.int set20), some (.int (bI may31)), some (.int sum32), none, none] dX10_most_194 (by decide) rfl rfl ?_
            refine GX_iload hC dX10_most_195 rfl ?_
            refine GX_istore hC [some (.ref (gad Γ 62)), some (.int p1), some (.int what2), some (.int set20), some (.int sum32), some (.int set20), some (.int (bI may31)), some (.int sum32), none, none] dX10_most_197 (by decide) rfl rfl ?_
            exact (hJ106 _ _ (oi h111))
          have hc112 : false = c107 → GX Γ LAY 0 0 [some (.ref (gad Γ 62)), some (.int p1), some (.int what2), some (.int best18), some (.int top19), some (.int set20), some (.int (bI may31)), some (.int sum32), none, none] [] m4 199 := by
            intro q
            have h113 := ifF q.symm h109
            exact (hJ106 _ _ (oi h113))
          refine GX_iload hC dX10_most_180 rfl ?_
          refine GX_ifb_eq hC 199 dX10_most_182 (by decide) (fun q => ?_) (fun q => ?_)
          · skip
            have h114 := ifT q e108
            refine GX_iload hC dX10_most_185 rfl ?_
            refine GX_iload hC dX10_most_187 rfl ?_
            refine GX_icmp_le_N hC 199 dX10_most_189 (by decide) (fun q => ?_) (fun q => ?_)
            · skip
              exact hc110 (cdT q h114)
            · skip
              exact hc112 (cdF q h114)
          · skip
            have h115 := ifF q e108
            exact hc112 (oi h115)
        intro best104 top105 q116
        subst q116
        obtain ⟨i117, e118, h119⟩ := ob h103
        refine GX_iinc hC i117 [some (.ref (gad Γ 62)), some (.int p1), some (.int what2), some (.int best104), some (.int top105), some (.int i117), some (.int (bI may31)), some (.int sum32), none, none] dX10_most_199 rfl (oi e118) (by decide) rfl rfl ?_
        refine GX_goto hC 33 dX10_most_202 (by decide) ?_
        exact GX.le (hI17 _ (oi h119).symm) ⟨rfl, ⟨rfl, ⟨rfl, ⟨rfl, ⟨rfl, ⟨rfl, trivial⟩⟩⟩⟩⟩⟩
      · skip
        have h120 := ifN q hx17
        exact GX.le (hJ17 _ _ (hO17 _ (oi h120).symm)) ⟨rfl, ⟨rfl, ⟨rfl, ⟨rfl, ⟨rfl, trivial⟩⟩⟩⟩⟩
    intro best21 top22 q121
    subst q121
    obtain ⟨x122, e123, h124⟩ := ob h16
    suffices hJ125 : GX Γ LAY 0 0 [some (.ref (gad Γ 62)), some (.int p1), some (.int what2), some (.int best21), some (.int top22), none, none, none, none, none] [.int x122] m4 215 by
      refine GX_iload_n hC dX10_most_205 rfl ?_
      refine GX_if_ne_N hC 213 dX10_most_206 (by decide) (fun q => ?_) (fun q => ?_)
      · skip
        have h126 := ifP q e123
        refine GX_iload_n hC dX10_most_209 rfl ?_
        refine GX_goto hC 215 dX10_most_210 (by decide) ?_
        exact GX_nm (oi h126) hJ125
      · skip
        have h127 := ifN q e123
        refine GX_iload hC dX10_most_213 rfl ?_
        exact GX_nm (oi h127) hJ125
    exact GX_iretW hC hR dX10_most_215 (oi h124)
  refine GX_aload_n hC dX10_most_5 rfl ?_
  refine GX_iload_n hC dX10_most_6 rfl ?_
  obtain ⟨b128, e129, h130⟩ := ob e8
  refine GX_callV_i (st := []) hC (C_M_isPerson e129) okX10_isPerson lkX10_181 ol_62 rfl rfl (Nat.le_of_ble_eq_true rfl) (Nat.le_of_ble_eq_true rfl) hk rfl (Nat.le_of_ble_eq_true rfl) dX10_most_7 ?_
  refine GX_ifb_eq hC 23 dX10_most_10 (by decide) (fun q => ?_) (fun q => ?_)
  · skip
    have h131 := ifT q h130
    refine GX_iload_n hC dX10_most_13 rfl ?_
    refine GX_i2l hC dX10_most_14 ?_
    refine GX_lconst hC 0 dX10_most_15 rfl ?_
    refine GX_lconst hC 1 dX10_most_16 rfl ?_
    obtain ⟨b132, e133, h134⟩ := ob h131
    refine GX_callS_i (st := []) hC (C_M_in e133) okX10_in lkX10_106 rfl (Nat.le_of_ble_eq_true rfl) (Nat.le_of_ble_eq_true rfl) hk rfl (Nat.le_of_ble_eq_true rfl) dX10_most_17 ?_
    refine GX_ifb_ne hC 25 dX10_most_20 (by decide) (fun q => ?_) (fun q => ?_)
    · skip
      exact hc12 (cbnT q h134)
    · skip
      exact hc10 (cbnF q h134)
  · skip
    have h135 := ifF q h130
    exact hc10 (oi h135)
set_option maxRecDepth 100000 in
set_option maxHeartbeats 4000000 in
theorem C_M_findBest {l : Launch} {musts1 : Bool} {m2 : MI} {mr : MI}  (hf : M_findBest musts1 m2 = some mr) : Cn l yX10_findBest cX10_findBest 6 none 3 LAY (fun ad => .ref (ad 62) :: [.int (bI musts1)]) m2 (fun _ => none) mr := by
  refine Cn.of (fun ad => [some (.ref (ad 62)), some (.int (bI musts1)), none, none, none, none]) (by decide +kernel) (fun _ => rfl) (fun _ => Nat.le_of_ble_eq_true rfl) (fun Γ hl hC hR hk => ?_)
  subst hl
  replace hC : CX Γ cX10_findBest RX10 LAY 3 6 := hC
  dsimp only [M_findBest] at hf
  refine GX_aload_n hC dX10_findBest_0 rfl ?_
  refine GX_iconst hC (-1) dX10_findBest_1 rfl ?_
  obtain ⟨m3, e4, h5⟩ := ob hf
  refine GX_stF hC e4 fkX10_267 ftX10_29 ol_62 rfl dX10_findBest_2 ?_
  refine GX_aload_n hC dX10_findBest_5 rfl ?_
  refine GX_iconst hC (-1) dX10_findBest_6 rfl ?_
  obtain ⟨m6, e7, h8⟩ := ob h5
  refine GX_stF hC e7 fkX10_270 ftX10_30 ol_62 rfl dX10_findBest_7 ?_
  refine GX_aload_n hC dX10_findBest_10 rfl ?_
  refine GX_getI hC fkX10_110 ol_62 rfl dX10_findBest_11 ?_
  refine GX_iconst hC 1 dX10_findBest_14 rfl ?_
  refine GX_iadd hC dX10_findBest_15 ?_
  refine GX_aload_n hC dX10_findBest_16 rfl ?_
  refine GX_getI hC fkX10_103 ol_62 rfl dX10_findBest_17 ?_
  obtain ⟨r9, e10, h11⟩ := ob h8
  refine GX_callS_i (st := []) hC (C_M_power e10) okX10_power lkX10_257 rfl (Nat.le_of_ble_eq_true rfl) (Nat.le_of_ble_eq_true rfl) hk rfl (Nat.le_of_ble_eq_true rfl) dX10_findBest_20 ?_
  refine GX_istore_n hC [some (.ref (gad Γ 62)), some (.int (bI musts1)), some (.int r9), none, none, none] dX10_findBest_23 (by decide) rfl rfl ?_
  refine GX_iconst hC 0 dX10_findBest_24 rfl ?_
  refine GX_istore_n hC [some (.ref (gad Γ 62)), some (.int (bI musts1)), some (.int r9), some (.int 0), none, none] dX10_findBest_25 (by decide) rfl rfl ?_
  obtain ⟨o12, e13, h14⟩ := ob h11
  suffices hJ15 : ∀ (m18 : MI), m18 = o12 → GX Γ LAY 0 0 [some (.ref (gad Γ 62)), some (.int (bI musts1)), some (.int r9), none, none, none] [] m18 162 by
    refine lp_walk (P := fun s => GX Γ LAY 0 0 [some (.ref (gad Γ 62)), some (.int (bI musts1)), some (.int r9), some (.int s.1), none, none] [] s.2 26) (fun s x hx15 hI15 hO15 => ?_) _ _ e13
    obtain ⟨number16, m17⟩ := s
    show GX Γ LAY 0 0 [some (.ref (gad Γ 62)), some (.int (bI musts1)), some (.int r9), some (.int number16), none, none] [] m17 26
    dsimp only [M_findBest_s1] at hx15
    refine GX_iload_n hC dX10_findBest_26 rfl ?_
    refine GX_iload_n hC dX10_findBest_27 rfl ?_
    refine GX_icmp_ge_N hC 162 dX10_findBest_28 (by decide) (fun q => ?_) (fun q => ?_)
    · skip
      have h19 := ifP q hx15
      refine GX_aload_n hC dX10_findBest_31 rfl ?_
      refine GX_iload_n hC dX10_findBest_32 rfl ?_
      refine GX_aload_n hC dX10_findBest_33 rfl ?_
      refine GX_getI hC fkX10_110 ol_62 rfl dX10_findBest_34 ?_
      refine GX_iconst hC 1 dX10_findBest_37 rfl ?_
      refine GX_iadd hC dX10_findBest_38 ?_
      obtain ⟨m20, e21, h22⟩ := ob h19
      refine GX_callV_v (st := []) hC (C_M_spread e21) okX10_spread lkX10_261 ol_62 rfl rfl (Nat.le_of_ble_eq_true rfl) (Nat.le_of_ble_eq_true rfl) hk rfl (Nat.le_of_ble_eq_true rfl) dX10_findBest_39 ?_
      refine GX_iconst hC (bI true) dX10_findBest_42 rfl ?_
      refine GX_istore hC [some (.ref (gad Γ 62)), some (.int (bI musts1)), some (.int r9), some (.int number16), some (.int (bI true)), none] dX10_findBest_43 (by decide) rfl rfl ?_
      refine GX_iconst hC 0 dX10_findBest_45 rfl ?_
      refine GX_istore hC [some (.ref (gad Γ 62)), some (.int (bI musts1)), some (.int r9), some (.int number16), some (.int (bI true)), some (.int 0)] dX10_findBest_46 (by decide) rfl rfl ?_
      obtain ⟨o23, e24, h25⟩ := ob h22
      suffices hJ26 : ∀ (may30 : Bool) (m31 : MI), (may30, m31) = o23 → GX Γ LAY 0 0 [some (.ref (gad Γ 62)), some (.int (bI musts1)), some (.int r9), some (.int number16), some (.int (bI may30)), none] [] m31 120 by
        refine lp_walk (P := fun s => GX Γ LAY 0 0 [some (.ref (gad Γ 62)), some (.int (bI musts1)), some (.int r9), some (.int number16), some (.int (bI s.1)), some (.int s.2.1)] [] s.2.2 48) (fun s x hx26 hI26 hO26 => ?_) _ _ e24
        obtain ⟨may27, f28, m29⟩ := s
        show GX Γ LAY 0 0 [some (.ref (gad Γ 62)), some (.int (bI musts1)), some (.int r9), some (.int number16), some (.int (bI may27)), some (.int f28)] [] m29 48
        dsimp only [M_findBest_s2] at hx26
        refine GX_iload hC dX10_findBest_48 rfl ?_
        refine GX_aload_n hC dX10_findBest_50 rfl ?_
        refine GX_getI hC fkX10_103 ol_62 rfl dX10_findBest_51 ?_
        refine GX_icmp_ge_N hC 120 dX10_findBest_54 (by decide) (fun q => ?_) (fun q => ?_)
        · skip
          have h32 := ifP q hx26
          refine GX_aload_n hC dX10_findBest_57 rfl ?_
          refine GX_getR hC fkX10_28 ol_62 rfl dX10_findBest_58 ?_
          refine GX_iload hC dX10_findBest_61 rfl ?_
          refine GX_aload_n hC dX10_findBest_63 rfl ?_
          refine GX_getR hC fkX10_49 ol_62 rfl dX10_findBest_64 ?_
          refine GX_iload hC dX10_findBest_67 rfl ?_
          obtain ⟨x33, e34, h35⟩ := ob h32
          refine GX_ldA hC e34 al_76 dX10_findBest_69 ?_
          obtain ⟨m36, e37, h38⟩ := ob h35
          refine GX_stA hC e37 al_69 dX10_findBest_70 ?_
          obtain ⟨c39, e40, h41⟩ := ob h38
          suffices hJ42 : GX Γ LAY 0 0 [some (.ref (gad Γ 62)), some (.int (bI musts1)), some (.int r9), some (.int number16), some (.int (bI may27)), some (.int f28)] [.int (bI c39)] m36 112 by
            have hc43 : true = c39 → GX Γ LAY 0 0 [some (.ref (gad Γ 62)), some (.int (bI musts1)), some (.int r9), some (.int number16), some (.int (bI may27)), some (.int f28)] [] m36 107 := by
              intro q
              subst q
              refine GX_iconst hC (bI true) dX10_findBest_107 rfl ?_
              refine GX_goto hC 112 dX10_findBest_108 (by decide) ?_
              exact hJ42
            have hc44 : false = c39 → GX Γ LAY 0 0 [some (.ref (gad Γ 62)), some (.int (bI musts1)), some (.int r9), some (.int number16), some (.int (bI may27)), some (.int f28)] [] m36 111 := by
              intro q
              subst q
              refine GX_iconst hC (bI false) dX10_findBest_111 rfl ?_
              exact hJ42
            refine GX_iload hC dX10_findBest_71 rfl ?_
            refine GX_ifb_eq hC 111 dX10_findBest_73 (by decide) (fun q => ?_) (fun q => ?_)
            · skip
              have h45 := ifT q e40
              refine GX_iload_n hC dX10_findBest_76 rfl ?_
              refine GX_ifb_eq hC 107 dX10_findBest_77 (by decide) (fun q => ?_) (fun q => ?_)
              · skip
                have h46 := ifT q h45
                refine GX_aload_n hC dX10_findBest_80 rfl ?_
                refine GX_getR hC fkX10_25 ol_62 rfl dX10_findBest_81 ?_
                refine GX_iload hC dX10_findBest_84 rfl ?_
                obtain ⟨x47, e48, h49⟩ := ob h46
                refine GX_ldA hC e48 al_68 dX10_findBest_86 ?_
                refine GX_if_eq_P hC 107 dX10_findBest_87 (by decide) (fun q => ?_) (fun q => ?_)
                · skip
                  have h50 := ifP q h49
                  exact hc43 (oi h50)
                · skip
                  have h51 := ifN q h49
                  refine GX_aload_n hC dX10_findBest_90 rfl ?_
                  refine GX_getR hC fkX10_25 ol_62 rfl dX10_findBest_91 ?_
                  refine GX_iload hC dX10_findBest_94 rfl ?_
                  obtain ⟨x52, e53, h54⟩ := ob h51
                  refine GX_ldA hC e53 al_68 dX10_findBest_96 ?_
                  refine GX_aload_n hC dX10_findBest_97 rfl ?_
                  refine GX_getR hC fkX10_49 ol_62 rfl dX10_findBest_98 ?_
                  refine GX_iload hC dX10_findBest_101 rfl ?_
                  obtain ⟨x55, e56, h57⟩ := ob h54
                  refine GX_ldA hC e56 al_76 dX10_findBest_103 ?_
                  refine GX_icmp_ne_N hC 111 dX10_findBest_104 (by decide) (fun q => ?_) (fun q => ?_)
                  · skip
                    exact hc43 (cdT q h57)
                  · skip
                    exact hc44 (cdF q h57)
              · skip
                have h58 := ifF q h45
                exact hc43 (oi h58)
            · skip
              have h59 := ifF q e40
              exact hc44 (oi h59)
          refine GX_istore hC [some (.ref (gad Γ 62)), some (.int (bI musts1)), some (.int r9), some (.int number16), some (.int (bI c39)), some (.int f28)] dX10_findBest_112 (by decide) rfl rfl ?_
          obtain ⟨i60, e61, h62⟩ := ob h41
          refine GX_iinc hC i60 [some (.ref (gad Γ 62)), some (.int (bI musts1)), some (.int r9), some (.int number16), some (.int (bI c39)), some (.int i60)] dX10_findBest_114 rfl (oi e61) (by decide) rfl rfl ?_
          refine GX_goto hC 48 dX10_findBest_117 (by decide) ?_
          exact hI26 _ (oi h62).symm
        · skip
          have h63 := ifN q hx26
          exact GX.le (hJ26 _ _ (hO26 _ (oi h63).symm)) ⟨rfl, ⟨rfl, ⟨rfl, ⟨rfl, ⟨rfl, trivial⟩⟩⟩⟩⟩
      intro may30 m31 q64
      subst q64
      obtain ⟨o65, e66, h67⟩ := ob h25
      suffices hJ69 : ∀ (m68 : MI), m68 = o65 → GX Γ LAY 0 0 [some (.ref (gad Γ 62)), some (.int (bI musts1)), some (.int r9), some (.int number16), some (.int (bI may30)), none] [] m68 156 by
        obtain ⟨c70, e71, h72⟩ := ob e66
        have hc73 : true = c70 → GX Γ LAY 0 0 [some (.ref (gad Γ 62)), some (.int (bI musts1)), some (.int r9), some (.int number16), some (.int (bI may30)), none] [] m31 143 := by
          intro q
          have h74 := ifT q.symm h72
          refine GX_aload_n hC dX10_findBest_143 rfl ?_
          refine GX_iload_n hC dX10_findBest_144 rfl ?_
          obtain ⟨m75, e76, h77⟩ := ob h74
          refine GX_stF hC e76 fkX10_267 ftX10_29 ol_62 rfl dX10_findBest_145 ?_
          refine GX_aload_n hC dX10_findBest_148 rfl ?_
          refine GX_aload_n hC dX10_findBest_149 rfl ?_
          obtain ⟨r78, e79, h80⟩ := ob h77
          refine GX_callV_i (st := [.ref (gad Γ 62)]) hC (C_M_worthOfAll e79) okX10_worthOfAll lkX10_273 ol_62 rfl rfl (Nat.le_of_ble_eq_true rfl) (Nat.le_of_ble_eq_true rfl) hk rfl (Nat.le_of_ble_eq_true rfl) dX10_findBest_150 ?_
          obtain ⟨m81, e82, h83⟩ := ob h80
          refine GX_stF hC e82 fkX10_270 ftX10_30 ol_62 rfl dX10_findBest_153 ?_
          exact (hJ69 _ (oi h83))
        have hc84 : false = c70 → GX Γ LAY 0 0 [some (.ref (gad Γ 62)), some (.int (bI musts1)), some (.int r9), some (.int number16), some (.int (bI may30)), none] [] m31 156 := by
          intro q
          have h85 := ifF q.symm h72
          exact (hJ69 _ (oi h85))
        refine GX_iload hC dX10_findBest_120 rfl ?_
        refine GX_ifb_eq hC 156 dX10_findBest_122 (by decide) (fun q => ?_) (fun q => ?_)
        · skip
          have h86 := ifT q e71
          refine GX_aload_n hC dX10_findBest_125 rfl ?_
          obtain ⟨b87, e88, h89⟩ := ob h86
          refine GX_callV_i (st := []) hC (C_M_isFine e88) okX10_isFine lkX10_210 ol_62 rfl rfl (Nat.le_of_ble_eq_true rfl) (Nat.le_of_ble_eq_true rfl) hk rfl (Nat.le_of_ble_eq_true rfl) dX10_findBest_126 ?_
          refine GX_ifb_eq hC 156 dX10_findBest_129 (by decide) (fun q => ?_) (fun q => ?_)
          · skip
            have h90 := ifT q h89
            refine GX_aload_n hC dX10_findBest_132 rfl ?_
            obtain ⟨r91, e92, h93⟩ := ob h90
            refine GX_callV_i (st := []) hC (C_M_worthOfAll e92) okX10_worthOfAll lkX10_273 ol_62 rfl rfl (Nat.le_of_ble_eq_true rfl) (Nat.le_of_ble_eq_true rfl) hk rfl (Nat.le_of_ble_eq_true rfl) dX10_findBest_133 ?_
            refine GX_aload_n hC dX10_findBest_136 rfl ?_
            refine GX_getI hC fkX10_270 ol_62 rfl dX10_findBest_137 ?_
            refine GX_icmp_le_N hC 156 dX10_findBest_140 (by decide) (fun q => ?_) (fun q => ?_)
            · skip
              exact hc73 (cdT q h93)
            · skip
              exact hc84 (cdF q h93)
          · skip
            have h94 := ifF q h89
            exact hc84 (oi h94)
        · skip
          have h95 := ifF q e71
          exact hc84 (oi h95)
      intro m68 q96
      subst q96
      obtain ⟨i97, e98, h99⟩ := ob h67
      refine GX_iinc hC i97 [some (.ref (gad Γ 62)), some (.int (bI musts1)), some (.int r9), some (.int i97), some (.int (bI may30)), none] dX10_findBest_156 rfl (oi e98) (by decide) rfl rfl ?_
      refine GX_goto hC 26 dX10_findBest_159 (by decide) ?_
      exact GX.le (hI15 _ (oi h99).symm) ⟨rfl, ⟨rfl, ⟨rfl, ⟨rfl, trivial⟩⟩⟩⟩
    · skip
      have h100 := ifN q hx15
      exact GX.le (hJ15 _ (hO15 _ (oi h100).symm)) ⟨rfl, ⟨rfl, ⟨rfl, trivial⟩⟩⟩
  intro m18 q101
  subst q101
  exact GX_vretW hC hR dX10_findBest_162 (oi h14)
