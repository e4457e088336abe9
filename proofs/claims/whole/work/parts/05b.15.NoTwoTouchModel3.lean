set_option maxRecDepth 100000 in
set_option maxHeartbeats 4000000 in
theorem C_M_lots {l : Launch} {z1 : Int32} {what2 : Int32} {m3 : MI} {r0 : Int32} {mr : MI}  (hf : M_lots z1 what2 m3 = some (r0, mr)) : Cn l yX10_lots cX10_lots 6 (some .int) 3 LAY (fun ad => .ref (ad 62) :: [.int z1, .int what2]) m3 (fun _ => some (.int r0)) mr := by
  refine Cn.of (fun ad => [some (.ref (ad 62)), some (.int z1), some (.int what2), none, none, none]) (by decide +kernel) (fun _ => rfl) (fun _ => Nat.le_of_ble_eq_true rfl) (fun Γ hl hC hR hk => ?_)
  subst hl
  replace hC : CX Γ cX10_lots RX10 LAY 3 6 := hC
  dsimp only [M_lots] at hf
  refine GX_aload_n hC dX10_lots_0 rfl ?_
  refine GX_iconst hC 0 dX10_lots_1 rfl ?_
  obtain ⟨m4, e5, h6⟩ := ob hf
  refine GX_stF hC e5 fkX10_99 ftX10_10 ol_62 rfl dX10_lots_2 ?_
  refine GX_iload_n hC dX10_lots_5 rfl ?_
  refine GX_i2l hC dX10_lots_6 ?_
  refine GX_lconst hC 0 dX10_lots_7 rfl ?_
  refine GX_lconst hC 1 dX10_lots_8 rfl ?_
  obtain ⟨b7, e8, h9⟩ := ob h6
  refine GX_callS_i (st := []) hC (C_M_in e8) okX10_in lkX10_106 rfl (Nat.le_of_ble_eq_true rfl) (Nat.le_of_ble_eq_true rfl) hk rfl (Nat.le_of_ble_eq_true rfl) dX10_lots_9 ?_
  refine GX_ifb_ne hC 17 dX10_lots_12 (by decide) (fun q => ?_) (fun q => ?_)
  · skip
    have h10 := ifT q h9
    refine GX_iload_n hC dX10_lots_17 rfl ?_
    refine GX_istore_n hC [some (.ref (gad Γ 62)), some (.int z1), some (.int what2), some (.int z1), none, none] dX10_lots_18 (by decide) rfl rfl ?_
    refine GX_aload_n hC dX10_lots_19 rfl ?_
    obtain ⟨m11, e12, h13⟩ := ob h10
    refine GX_callV_v (st := []) hC (C_M_takeNow e12) okX10_takeNow lkX10_204 ol_62 rfl rfl (Nat.le_of_ble_eq_true rfl) (Nat.le_of_ble_eq_true rfl) hk rfl (Nat.le_of_ble_eq_true rfl) dX10_lots_20 ?_
    refine GX_iconst hC 0 dX10_lots_23 rfl ?_
    refine GX_istore hC [some (.ref (gad Γ 62)), some (.int z1), some (.int what2), some (.int z1), some (.int 0), none] dX10_lots_24 (by decide) rfl rfl ?_
    obtain ⟨o14, e15, h16⟩ := ob h13
    suffices hJ17 : ∀ (seed21 : Int32) (m22 : MI), (seed21, m22) = o14 → GX Γ LAY 0 0 [some (.ref (gad Γ 62)), some (.int z1), some (.int what2), some (.int seed21), none, none] [] m22 128 by
      refine lp_walk (P := fun s => GX Γ LAY 0 0 [some (.ref (gad Γ 62)), some (.int z1), some (.int what2), some (.int s.1), some (.int s.2.1), none] [] s.2.2 26) (fun s x hx17 hI17 hO17 => ?_) _ _ e15
      obtain ⟨seed18, f19, m20⟩ := s
      show GX Γ LAY 0 0 [some (.ref (gad Γ 62)), some (.int z1), some (.int what2), some (.int seed18), some (.int f19), none] [] m20 26
      dsimp only [M_lots_s1] at hx17
      refine GX_iload hC dX10_lots_26 rfl ?_
      refine GX_aload_n hC dX10_lots_28 rfl ?_
      refine GX_getI hC fkX10_103 ol_62 rfl dX10_lots_29 ?_
      refine GX_icmp_ge_N hC 128 dX10_lots_32 (by decide) (fun q => ?_) (fun q => ?_)
      · skip
        have h23 := ifP q hx17
        obtain ⟨o24, e25, h26⟩ := ob h23
        suffices hJ29 : ∀ (seed27 : Int32) (m28 : MI), (seed27, m28) = o24 → GX Γ LAY 0 0 [some (.ref (gad Γ 62)), some (.int z1), some (.int what2), some (.int seed27), some (.int f19), none] [] m28 122 by
          refine GX_aload_n hC dX10_lots_35 rfl ?_
          refine GX_getR hC fkX10_25 ol_62 rfl dX10_lots_36 ?_
          refine GX_iload hC dX10_lots_39 rfl ?_
          obtain ⟨x30, e31, h32⟩ := ob e25
          refine GX_ldA hC e31 al_68 dX10_lots_41 ?_
          refine GX_if_ne_N hC 122 dX10_lots_42 (by decide) (fun q => ?_) (fun q => ?_)
          · skip
            have h33 := ifP q h32
            refine GX_iload_n hC dX10_lots_45 rfl ?_
            refine GX_ldcw hC 1103515245 kcX10_309 dX10_lots_46 ?_
            refine GX_imul hC dX10_lots_49 ?_
            refine GX_sipush hC 12345 dX10_lots_50 rfl ?_
            refine GX_iadd hC dX10_lots_53 ?_
            obtain ⟨seed34, e35, h36⟩ := ob h33
            refine GX_nm (oi e35) ?_
            refine GX_istore_n hC [some (.ref (gad Γ 62)), some (.int z1), some (.int what2), some (.int seed34), some (.int f19), none] dX10_lots_54 (by decide) rfl rfl ?_
            refine GX_iload_n hC dX10_lots_55 rfl ?_
            refine GX_ldcw hC 2147483647 kcX10_310 dX10_lots_56 ?_
            refine GX_iand hC dX10_lots_59 ?_
            refine GX_ldcw hC 65536 kcX10_311 dX10_lots_60 ?_
            refine GX_idiv hC dX10_lots_63 (by decide) ?_
            refine GX_aload_n hC dX10_lots_64 rfl ?_
            refine GX_getI hC fkX10_110 ol_62 rfl dX10_lots_65 ?_
            refine GX_iconst hC 1 dX10_lots_68 rfl ?_
            refine GX_iadd hC dX10_lots_69 ?_
            obtain ⟨q37, e38, h39⟩ := ob h36
            refine GX_rmO hC e38 dX10_lots_70 ?_
            refine GX_istore hC [some (.ref (gad Γ 62)), some (.int z1), some (.int what2), some (.int seed34), some (.int f19), some (.int q37)] dX10_lots_71 (by decide) rfl rfl ?_
            refine GX_aload_n hC dX10_lots_73 rfl ?_
            refine GX_getR hC fkX10_28 ol_62 rfl dX10_lots_74 ?_
            refine GX_iload hC dX10_lots_77 rfl ?_
            obtain ⟨x40, e41, h42⟩ := ob h39
            suffices hJ43 : GX Γ LAY 0 0 [some (.ref (gad Γ 62)), some (.int z1), some (.int what2), some (.int seed34), some (.int f19), some (.int q37)] [.int x40, .int f19, .ref (gad Γ 69)] m20 96 by
              refine GX_iload hC dX10_lots_79 rfl ?_
              refine GX_aload_n hC dX10_lots_81 rfl ?_
              refine GX_getI hC fkX10_110 ol_62 rfl dX10_lots_82 ?_
              refine GX_icmp_ne_N hC 92 dX10_lots_85 (by decide) (fun q => ?_) (fun q => ?_)
              · skip
                have h44 := ifP q e41
                refine GX_iconst hC 0 dX10_lots_88 rfl ?_
                refine GX_goto hC 96 dX10_lots_89 (by decide) ?_
                exact GX_nm (oi h44) hJ43
              · skip
                have h45 := ifN q e41
                refine GX_iload hC dX10_lots_92 rfl ?_
                refine GX_iconst hC 1 dX10_lots_94 rfl ?_
                refine GX_iadd hC dX10_lots_95 ?_
                exact GX_nm (oi h45) hJ43
            obtain ⟨m46, e47, h48⟩ := ob h42
            refine GX_stA hC e47 al_69 dX10_lots_96 ?_
            refine GX_aload_n hC dX10_lots_97 rfl ?_
            refine GX_getR hC fkX10_28 ol_62 rfl dX10_lots_98 ?_
            refine GX_iload hC dX10_lots_101 rfl ?_
            obtain ⟨x49, e50, h51⟩ := ob h48
            suffices hJ52 : GX Γ LAY 0 0 [some (.ref (gad Γ 62)), some (.int z1), some (.int what2), some (.int seed34), some (.int f19), some (.int q37)] [.int x49, .int f19, .ref (gad Γ 69)] m46 121 by
              refine GX_aload_n hC dX10_lots_103 rfl ?_
              obtain ⟨b53, e54, h55⟩ := ob e50
              refine GX_callV_i (st := [.int f19, .ref (gad Γ 69)]) hC (C_M_isFine e54) okX10_isFine lkX10_210 ol_62 rfl rfl (Nat.le_of_ble_eq_true rfl) (Nat.le_of_ble_eq_true rfl) hk rfl (Nat.le_of_ble_eq_true rfl) dX10_lots_104 ?_
              refine GX_ifb_eq hC 120 dX10_lots_107 (by decide) (fun q => ?_) (fun q => ?_)
              · skip
                have h56 := ifT q h55
                refine GX_aload_n hC dX10_lots_110 rfl ?_
                refine GX_getR hC fkX10_28 ol_62 rfl dX10_lots_111 ?_
                refine GX_iload hC dX10_lots_114 rfl ?_
                obtain ⟨x57, e58, h59⟩ := ob h56
                refine GX_ldA hC e58 al_69 dX10_lots_116 ?_
                refine GX_goto hC 121 dX10_lots_117 (by decide) ?_
                exact GX_nm (oi h59) hJ52
              · skip
                have h60 := ifF q h55
                refine GX_iconst hC 0 dX10_lots_120 rfl ?_
                exact GX_nm (oi h60) hJ52
            obtain ⟨m61, e62, h63⟩ := ob h51
            refine GX_stA hC e62 al_69 dX10_lots_121 ?_
            exact GX.le (hJ29 _ _ (oi h63)) ⟨rfl, ⟨rfl, ⟨rfl, ⟨rfl, ⟨rfl, trivial⟩⟩⟩⟩⟩
          · skip
            have h64 := ifN q h32
            exact (hJ29 _ _ (oi h64))
        intro seed27 m28 q65
        subst q65
        obtain ⟨i66, e67, h68⟩ := ob h26
        refine GX_iinc hC i66 [some (.ref (gad Γ 62)), some (.int z1), some (.int what2), some (.int seed27), some (.int i66), none] dX10_lots_122 rfl (oi e67) (by decide) rfl rfl ?_
        refine GX_goto hC 26 dX10_lots_125 (by decide) ?_
        exact hI17 _ (oi h68).symm
      · skip
        have h69 := ifN q hx17
        exact GX.le (hJ17 _ _ (hO17 _ (oi h69).symm)) ⟨rfl, ⟨rfl, ⟨rfl, ⟨rfl, trivial⟩⟩⟩⟩
    intro seed21 m22 q70
    subst q70
    refine GX_iconst hC 0 dX10_lots_128 rfl ?_
    refine GX_istore hC [some (.ref (gad Γ 62)), some (.int z1), some (.int what2), some (.int seed21), some (.int 0), none] dX10_lots_129 (by decide) rfl rfl ?_
    refine GX_iconst hC 0 dX10_lots_131 rfl ?_
    refine GX_istore hC [some (.ref (gad Γ 62)), some (.int z1), some (.int what2), some (.int seed21), some (.int 0), some (.int 0)] dX10_lots_132 (by decide) rfl rfl ?_
    obtain ⟨o71, e72, h73⟩ := ob h16
    suffices hJ74 : ∀ (n77 : Int32), n77 = o71 → GX Γ LAY 0 0 [some (.ref (gad Γ 62)), some (.int z1), some (.int what2), some (.int seed21), some (.int n77), none] [] m22 169 by
      refine lp_walk (P := fun s => GX Γ LAY 0 0 [some (.ref (gad Γ 62)), some (.int z1), some (.int what2), some (.int seed21), some (.int s.1), some (.int s.2)] [] m22 134) (fun s x hx74 hI74 hO74 => ?_) _ _ e72
      obtain ⟨n75, f76⟩ := s
      show GX Γ LAY 0 0 [some (.ref (gad Γ 62)), some (.int z1), some (.int what2), some (.int seed21), some (.int n75), some (.int f76)] [] m22 134
      dsimp only [M_lots_s2] at hx74
      refine GX_iload hC dX10_lots_134 rfl ?_
      refine GX_aload_n hC dX10_lots_136 rfl ?_
      refine GX_getI hC fkX10_103 ol_62 rfl dX10_lots_137 ?_
      refine GX_icmp_ge_N hC 169 dX10_lots_140 (by decide) (fun q => ?_) (fun q => ?_)
      · skip
        have h78 := ifP q hx74
        refine GX_iload hC dX10_lots_143 rfl ?_
        obtain ⟨x79, e80, h81⟩ := ob h78
        suffices hJ82 : GX Γ LAY 0 0 [some (.ref (gad Γ 62)), some (.int z1), some (.int what2), some (.int seed21), some (.int n75), some (.int f76)] [.int x79, .int n75] m22 160 by
          refine GX_aload_n hC dX10_lots_145 rfl ?_
          refine GX_getR hC fkX10_28 ol_62 rfl dX10_lots_146 ?_
          refine GX_iload hC dX10_lots_149 rfl ?_
          obtain ⟨x83, e84, h85⟩ := ob e80
          refine GX_ldA hC e84 al_69 dX10_lots_151 ?_
          refine GX_if_le_N hC 159 dX10_lots_152 (by decide) (fun q => ?_) (fun q => ?_)
          · skip
            have h86 := ifP q h85
            refine GX_iconst hC 1 dX10_lots_155 rfl ?_
            refine GX_goto hC 160 dX10_lots_156 (by decide) ?_
            exact GX_nm (oi h86) hJ82
          · skip
            have h87 := ifN q h85
            refine GX_iconst hC 0 dX10_lots_159 rfl ?_
            exact GX_nm (oi h87) hJ82
        refine GX_iadd hC dX10_lots_160 ?_
        obtain ⟨n88, e89, h90⟩ := ob h81
        refine GX_nm (oi e89) ?_
        refine GX_istore hC [some (.ref (gad Γ 62)), some (.int z1), some (.int what2), some (.int seed21), some (.int n88), some (.int f76)] dX10_lots_161 (by decide) rfl rfl ?_
        obtain ⟨i91, e92, h93⟩ := ob h90
        refine GX_iinc hC i91 [some (.ref (gad Γ 62)), some (.int z1), some (.int what2), some (.int seed21), some (.int n88), some (.int i91)] dX10_lots_163 rfl (oi e92) (by decide) rfl rfl ?_
        refine GX_goto hC 134 dX10_lots_166 (by decide) ?_
        exact hI74 _ (oi h93).symm
      · skip
        have h94 := ifN q hx74
        exact GX.le (hJ74 _ (hO74 _ (oi h94).symm)) ⟨rfl, ⟨rfl, ⟨rfl, ⟨rfl, ⟨rfl, trivial⟩⟩⟩⟩⟩
    intro n77 q95
    subst q95
    obtain ⟨x96, e97, h98⟩ := ob h73
    suffices hJ99 : GX Γ LAY 0 0 [some (.ref (gad Γ 62)), some (.int z1), some (.int what2), some (.int seed21), some (.int n77), none] [.int x96] m22 182 by
      refine GX_iload_n hC dX10_lots_169 rfl ?_
      refine GX_if_ne_N hC 178 dX10_lots_170 (by decide) (fun q => ?_) (fun q => ?_)
      · skip
        have h100 := ifP q e97
        refine GX_iload hC dX10_lots_173 rfl ?_
        refine GX_goto hC 182 dX10_lots_175 (by decide) ?_
        exact GX_nm (oi h100) hJ99
      · skip
        have h101 := ifN q e97
        refine GX_aload_n hC dX10_lots_178 rfl ?_
        obtain ⟨r102, e103, h104⟩ := ob h101
        refine GX_callV_i (st := []) hC (C_M_worthOfAll e103) okX10_worthOfAll lkX10_273 ol_62 rfl rfl (Nat.le_of_ble_eq_true rfl) (Nat.le_of_ble_eq_true rfl) hk rfl (Nat.le_of_ble_eq_true rfl) dX10_lots_179 ?_
        exact GX_nm (oi h104) hJ99
    exact GX_iretW hC hR dX10_lots_182 (oi h98)
  · skip
    have h105 := ifF q h9
    refine GX_iconst hC (-1) dX10_lots_15 rfl ?_
    exact GX_iretW hC hR dX10_lots_16 (oi h105)
set_option maxRecDepth 100000 in
set_option maxHeartbeats 4000000 in
theorem C_M_image {l : Launch} {m1 : MI} {r0 : Int32} {mr : MI}  (hf : M_image m1 = some (r0, mr)) : Cn l yX10_image cX10_image 1 (some .int) 2 LAY (fun ad => .ref (ad 62) :: []) m1 (fun _ => some (.int r0)) mr := by
  refine Cn.of (fun ad => [some (.ref (ad 62))]) (by decide +kernel) (fun _ => rfl) (fun _ => Nat.le_of_ble_eq_true rfl) (fun Γ hl hC hR hk => ?_)
  subst hl
  replace hC : CX Γ cX10_image RX10 LAY 2 1 := hC
  dsimp only [M_image] at hf
  refine GX_aload_n hC dX10_image_0 rfl ?_
  refine GX_iconst hC 0 dX10_image_1 rfl ?_
  obtain ⟨m2, e3, h4⟩ := ob hf
  refine GX_stF hC e3 fkX10_99 ftX10_10 ol_62 rfl dX10_image_2 ?_
  refine GX_aload_n hC dX10_image_5 rfl ?_
  refine GX_iconst hC (bI true) dX10_image_6 rfl ?_
  obtain ⟨m5, e6, h7⟩ := ob h4
  refine GX_stZ hC e6 fkX10_322 ftX10_37 ol_62 rfl dX10_image_7 ?_
  refine GX_aload_n hC dX10_image_10 rfl ?_
  refine GX_aload_n hC dX10_image_11 rfl ?_
  refine GX_getR hC fkX10_71 ol_62 rfl dX10_image_12 ?_
  refine GX_iconst hC (bI true) dX10_image_15 rfl ?_
  obtain ⟨m8, e9, h10⟩ := ob h7
  refine GX_callV_v (st := []) hC (C_M_carryTo al_83 e9) okX10_carryTo lkX10_190 ol_62 rfl rfl (Nat.le_of_ble_eq_true rfl) (Nat.le_of_ble_eq_true rfl) hk rfl (Nat.le_of_ble_eq_true rfl) dX10_image_16 ?_
  refine GX_aload_n hC dX10_image_19 rfl ?_
  refine GX_getI hC fkX10_103 ol_62 rfl dX10_image_20 ?_
  exact GX_iretW hC hR dX10_image_23 (oi h10)
set_option maxRecDepth 100000 in
set_option maxHeartbeats 4000000 in
theorem C_M_restore {l : Launch} {m1 : MI} {r0 : Int32} {mr : MI}  (hf : M_restore m1 = some (r0, mr)) : Cn l yX10_restore cX10_restore 1 (some .int) 2 LAY (fun ad => .ref (ad 62) :: []) m1 (fun _ => some (.int r0)) mr := by
  refine Cn.of (fun ad => [some (.ref (ad 62))]) (by decide +kernel) (fun _ => rfl) (fun _ => Nat.le_of_ble_eq_true rfl) (fun Γ hl hC hR hk => ?_)
  subst hl
  replace hC : CX Γ cX10_restore RX10 LAY 2 1 := hC
  dsimp only [M_restore] at hf
  refine GX_aload_n hC dX10_restore_0 rfl ?_
  refine GX_iconst hC 0 dX10_restore_1 rfl ?_
  obtain ⟨m2, e3, h4⟩ := ob hf
  refine GX_stF hC e3 fkX10_99 ftX10_10 ol_62 rfl dX10_restore_2 ?_
  refine GX_aload_n hC dX10_restore_5 rfl ?_
  obtain ⟨b5, e6, h7⟩ := ob h4
  refine GX_ldZ hC e6 fkX10_322 ol_62 rfl dX10_restore_6 ?_
  refine GX_ifb_ne hC 15 dX10_restore_9 (by decide) (fun q => ?_) (fun q => ?_)
  · skip
    have h8 := ifT q h7
    refine GX_aload_n hC dX10_restore_15 rfl ?_
    refine GX_aload_n hC dX10_restore_16 rfl ?_
    refine GX_getR hC fkX10_71 ol_62 rfl dX10_restore_17 ?_
    refine GX_iconst hC (bI false) dX10_restore_20 rfl ?_
    obtain ⟨m9, e10, h11⟩ := ob h8
    refine GX_callV_v (st := []) hC (C_M_carryTo al_83 e10) okX10_carryTo lkX10_190 ol_62 rfl rfl (Nat.le_of_ble_eq_true rfl) (Nat.le_of_ble_eq_true rfl) hk rfl (Nat.le_of_ble_eq_true rfl) dX10_restore_21 ?_
    refine GX_aload_n hC dX10_restore_24 rfl ?_
    refine GX_getI hC fkX10_103 ol_62 rfl dX10_restore_25 ?_
    exact GX_iretW hC hR dX10_restore_28 (oi h11)
  · skip
    have h12 := ifF q h7
    refine GX_bipush hC (-3) dX10_restore_12 rfl ?_
    exact GX_iretW hC hR dX10_restore_14 (oi h12)
set_option maxRecDepth 100000 in
set_option maxHeartbeats 4000000 in
theorem C_M_touches {l : Launch} {t1 : Int32} {m2 : MI} {r0 : Int32}  (hf : M_touches t1 m2 = some r0) : Cn l yX10_touches cX10_touches 5 (some .int) 0 LAY (fun ad => .ref (ad 62) :: [.int t1]) m2 (fun _ => some (.int r0)) m2 := by
  refine Cn.of (fun ad => [some (.ref (ad 62)), some (.int t1), none, none, none]) (by decide +kernel) (fun _ => rfl) (fun _ => Nat.le_of_ble_eq_true rfl) (fun Γ hl hC hR hk => ?_)
  subst hl
  replace hC : CX Γ cX10_touches RX10 LAY 0 5 := hC
  dsimp only [M_touches] at hf
  refine GX_iconst hC 0 dX10_touches_0 rfl ?_
  refine GX_istore_n hC [some (.ref (gad Γ 62)), some (.int t1), some (.int 0), none, none] dX10_touches_1 (by decide) rfl rfl ?_
  refine GX_iconst hC 0 dX10_touches_2 rfl ?_
  refine GX_istore_n hC [some (.ref (gad Γ 62)), some (.int t1), some (.int 0), some (.int 0), none] dX10_touches_3 (by decide) rfl rfl ?_
  obtain ⟨o3, e4, h5⟩ := ob hf
  suffices hJ6 : ∀ (n9 : Int32), n9 = o3 → GX Γ LAY 0 0 [some (.ref (gad Γ 62)), some (.int t1), some (.int n9), none, none] [] m2 57 by
    refine lp_walk (P := fun s => GX Γ LAY 0 0 [some (.ref (gad Γ 62)), some (.int t1), some (.int s.1), some (.int s.2), none] [] m2 4) (fun s x hx6 hI6 hO6 => ?_) _ _ e4
    obtain ⟨n7, a8⟩ := s
    show GX Γ LAY 0 0 [some (.ref (gad Γ 62)), some (.int t1), some (.int n7), some (.int a8), none] [] m2 4
    dsimp only [M_touches_s1] at hx6
    refine GX_iload_n hC dX10_touches_4 rfl ?_
    refine GX_aload_n hC dX10_touches_5 rfl ?_
    refine GX_getI hC fkX10_103 ol_62 rfl dX10_touches_6 ?_
    refine GX_icmp_ge_N hC 57 dX10_touches_9 (by decide) (fun q => ?_) (fun q => ?_)
    · skip
      have h10 := ifP q hx6
      refine GX_iconst hC 0 dX10_touches_12 rfl ?_
      refine GX_istore hC [some (.ref (gad Γ 62)), some (.int t1), some (.int n7), some (.int a8), some (.int 0)] dX10_touches_13 (by decide) rfl rfl ?_
      obtain ⟨o11, e12, h13⟩ := ob h10
      suffices hJ14 : ∀ (n17 : Int32), n17 = o11 → GX Γ LAY 0 0 [some (.ref (gad Γ 62)), some (.int t1), some (.int n17), some (.int a8), none] [] m2 51 by
        refine lp_walk (P := fun s => GX Γ LAY 0 0 [some (.ref (gad Γ 62)), some (.int t1), some (.int s.1), some (.int a8), some (.int s.2)] [] m2 15) (fun s x hx14 hI14 hO14 => ?_) _ _ e12
        obtain ⟨n15, b16⟩ := s
        show GX Γ LAY 0 0 [some (.ref (gad Γ 62)), some (.int t1), some (.int n15), some (.int a8), some (.int b16)] [] m2 15
        dsimp only [M_touches_s2] at hx14
        refine GX_iload hC dX10_touches_15 rfl ?_
        refine GX_iload_n hC dX10_touches_17 rfl ?_
        refine GX_icmp_ge_N hC 51 dX10_touches_18 (by decide) (fun q => ?_) (fun q => ?_)
        · skip
          have h18 := ifP q hx14
          refine GX_iload_n hC dX10_touches_21 rfl ?_
          obtain ⟨x19, e20, h21⟩ := ob h18
          suffices hJ22 : GX Γ LAY 0 0 [some (.ref (gad Γ 62)), some (.int t1), some (.int n15), some (.int a8), some (.int b16)] [.int x19, .int n15] m2 43 by
            refine GX_aload_n hC dX10_touches_22 rfl ?_
            refine GX_getR hC fkX10_13 ol_62 rfl dX10_touches_23 ?_
            refine GX_bipush hC 6 dX10_touches_26 rfl ?_
            refine GX_iload_n hC dX10_touches_28 rfl ?_
            refine GX_imul hC dX10_touches_29 ?_
            refine GX_iload hC dX10_touches_30 rfl ?_
            refine GX_iadd hC dX10_touches_32 ?_
            obtain ⟨x23, e24, h25⟩ := ob e20
            refine GX_ldA hC e24 al_64 dX10_touches_33 ?_
            refine GX_iload_n hC dX10_touches_34 rfl ?_
            refine GX_icmp_ne_N hC 42 dX10_touches_35 (by decide) (fun q => ?_) (fun q => ?_)
            · skip
              have h26 := ifP q h25
              refine GX_iconst hC 1 dX10_touches_38 rfl ?_
              refine GX_goto hC 43 dX10_touches_39 (by decide) ?_
              exact GX_nm (oi h26) hJ22
            · skip
              have h27 := ifN q h25
              refine GX_iconst hC 0 dX10_touches_42 rfl ?_
              exact GX_nm (oi h27) hJ22
          refine GX_iadd hC dX10_touches_43 ?_
          obtain ⟨n28, e29, h30⟩ := ob h21
          refine GX_nm (oi e29) ?_
          refine GX_istore_n hC [some (.ref (gad Γ 62)), some (.int t1), some (.int n28), some (.int a8), some (.int b16)] dX10_touches_44 (by decide) rfl rfl ?_
          obtain ⟨i31, e32, h33⟩ := ob h30
          refine GX_iinc hC i31 [some (.ref (gad Γ 62)), some (.int t1), some (.int n28), some (.int a8), some (.int i31)] dX10_touches_45 rfl (oi e32) (by decide) rfl rfl ?_
          refine GX_goto hC 15 dX10_touches_48 (by decide) ?_
          exact hI14 _ (oi h33).symm
        · skip
          have h34 := ifN q hx14
          exact GX.le (hJ14 _ (hO14 _ (oi h34).symm)) ⟨rfl, ⟨rfl, ⟨rfl, ⟨rfl, trivial⟩⟩⟩⟩
      intro n17 q35
      subst q35
      obtain ⟨i36, e37, h38⟩ := ob h13
      refine GX_iinc hC i36 [some (.ref (gad Γ 62)), some (.int t1), some (.int n17), some (.int i36), none] dX10_touches_51 rfl (oi e37) (by decide) rfl rfl ?_
      refine GX_goto hC 4 dX10_touches_54 (by decide) ?_
      exact hI6 _ (oi h38).symm
    · skip
      have h39 := ifN q hx6
      exact GX.le (hJ6 _ (hO6 _ (oi h39).symm)) ⟨rfl, ⟨rfl, ⟨rfl, trivial⟩⟩⟩
  intro n9 q40
  subst q40
  refine GX_iload_n hC dX10_touches_57 rfl ?_
  exact GX_iretR hC hR dX10_touches_58 (oi h5)
set_option maxRecDepth 100000 in
set_option maxHeartbeats 4000000 in
theorem C_M_sumOf {l : Launch} {what1 : Int32} {m2 : MI} {r0 : Int32}  (hf : M_sumOf what1 m2 = some r0) : Cn l yX10_sumOf cX10_sumOf 4 (some .int) 0 LAY (fun ad => .ref (ad 62) :: [.int what1]) m2 (fun _ => some (.int r0)) m2 := by
  refine Cn.of (fun ad => [some (.ref (ad 62)), some (.int what1), none, none]) (by decide +kernel) (fun _ => rfl) (fun _ => Nat.le_of_ble_eq_true rfl) (fun Γ hl hC hR hk => ?_)
  subst hl
  replace hC : CX Γ cX10_sumOf RX10 LAY 0 4 := hC
  dsimp only [M_sumOf] at hf
  refine GX_iconst hC 0 dX10_sumOf_0 rfl ?_
  refine GX_istore_n hC [some (.ref (gad Γ 62)), some (.int what1), some (.int 0), none] dX10_sumOf_1 (by decide) rfl rfl ?_
  refine GX_iconst hC 0 dX10_sumOf_2 rfl ?_
  refine GX_istore_n hC [some (.ref (gad Γ 62)), some (.int what1), some (.int 0), some (.int 0)] dX10_sumOf_3 (by decide) rfl rfl ?_
  obtain ⟨o3, e4, h5⟩ := ob hf
  suffices hJ6 : ∀ (sum9 : Int32), sum9 = o3 → GX Γ LAY 0 0 [some (.ref (gad Γ 62)), some (.int what1), some (.int sum9), none] [] m2 54 by
    refine lp_walk (P := fun s => GX Γ LAY 0 0 [some (.ref (gad Γ 62)), some (.int what1), some (.int s.1), some (.int s.2)] [] m2 4) (fun s x hx6 hI6 hO6 => ?_) _ _ e4
    obtain ⟨sum7, f8⟩ := s
    show GX Γ LAY 0 0 [some (.ref (gad Γ 62)), some (.int what1), some (.int sum7), some (.int f8)] [] m2 4
    dsimp only [M_sumOf_s1] at hx6
    refine GX_iload_n hC dX10_sumOf_4 rfl ?_
    refine GX_aload_n hC dX10_sumOf_5 rfl ?_
    refine GX_getI hC fkX10_103 ol_62 rfl dX10_sumOf_6 ?_
    refine GX_icmp_ge_N hC 54 dX10_sumOf_9 (by decide) (fun q => ?_) (fun q => ?_)
    · skip
      have h10 := ifP q hx6
      refine GX_iload_n hC dX10_sumOf_12 rfl ?_
      obtain ⟨x11, e12, h13⟩ := ob h10
      suffices hJ14 : GX Γ LAY 0 0 [some (.ref (gad Γ 62)), some (.int what1), some (.int sum7), some (.int f8)] [.int x11, .int sum7] m2 46 by
        refine GX_iload_n hC dX10_sumOf_13 rfl ?_
        refine GX_iconst hC 2 dX10_sumOf_14 rfl ?_
        refine GX_icmp_ne_N hC 27 dX10_sumOf_15 (by decide) (fun q => ?_) (fun q => ?_)
        · skip
          have h15 := ifP q e12
          refine GX_aload_n hC dX10_sumOf_18 rfl ?_
          refine GX_getR hC fkX10_7 ol_62 rfl dX10_sumOf_19 ?_
          refine GX_iload_n hC dX10_sumOf_22 rfl ?_
          obtain ⟨x16, e17, h18⟩ := ob h15
          refine GX_ldA hC e17 al_63 dX10_sumOf_23 ?_
          refine GX_goto hC 46 dX10_sumOf_24 (by decide) ?_
          exact GX_nm (oi h18) hJ14
        · skip
          have h19 := ifN q e12
          obtain ⟨x20, e21, h22⟩ := ob h19
          suffices hJ23 : GX Γ LAY 0 0 [some (.ref (gad Γ 62)), some (.int what1), some (.int sum7), some (.int f8)] [.int x20, .int sum7] m2 46 by
            obtain ⟨c24, e25, h26⟩ := ob e21
            have hc27 : true = c24 → GX Γ LAY 0 0 [some (.ref (gad Γ 62)), some (.int what1), some (.int sum7), some (.int f8)] [.int sum7] m2 41 := by
              intro q
              have h28 := ifT q.symm h26
              refine GX_iconst hC 1 dX10_sumOf_41 rfl ?_
              refine GX_goto hC 46 dX10_sumOf_42 (by decide) ?_
              exact GX_nm (oi h28) hJ23
            have hc29 : false = c24 → GX Γ LAY 0 0 [some (.ref (gad Γ 62)), some (.int what1), some (.int sum7), some (.int f8)] [.int sum7] m2 45 := by
              intro q
              have h30 := ifF q.symm h26
              refine GX_iconst hC 0 dX10_sumOf_45 rfl ?_
              exact GX_nm (oi h30) hJ23
            refine GX_iload_n hC dX10_sumOf_27 rfl ?_
            refine GX_iconst hC 3 dX10_sumOf_28 rfl ?_
            refine GX_icmp_ne_N hC 45 dX10_sumOf_29 (by decide) (fun q => ?_) (fun q => ?_)
            · skip
              have h31 := ifP q e25
              refine GX_aload_n hC dX10_sumOf_32 rfl ?_
              refine GX_getR hC fkX10_25 ol_62 rfl dX10_sumOf_33 ?_
              refine GX_iload_n hC dX10_sumOf_36 rfl ?_
              obtain ⟨x32, e33, h34⟩ := ob h31
              refine GX_ldA hC e33 al_68 dX10_sumOf_37 ?_
              refine GX_if_le_N hC 45 dX10_sumOf_38 (by decide) (fun q => ?_) (fun q => ?_)
              · skip
                exact hc27 (cdT q h34)
              · skip
                exact hc29 (cdF q h34)
            · skip
              have h35 := ifN q e25
              exact hc29 (oi h35)
          exact GX_nm (oi h22) hJ14
      refine GX_iadd hC dX10_sumOf_46 ?_
      obtain ⟨sum36, e37, h38⟩ := ob h13
      refine GX_nm (oi e37) ?_
      refine GX_istore_n hC [some (.ref (gad Γ 62)), some (.int what1), some (.int sum36), some (.int f8)] dX10_sumOf_47 (by decide) rfl rfl ?_
      obtain ⟨i39, e40, h41⟩ := ob h38
      refine GX_iinc hC i39 [some (.ref (gad Γ 62)), some (.int what1), some (.int sum36), some (.int i39)] dX10_sumOf_48 rfl (oi e40) (by decide) rfl rfl ?_
      refine GX_goto hC 4 dX10_sumOf_51 (by decide) ?_
      exact hI6 _ (oi h41).symm
    · skip
      have h42 := ifN q hx6
      exact GX.le (hJ6 _ (hO6 _ (oi h42).symm)) ⟨rfl, ⟨rfl, ⟨rfl, trivial⟩⟩⟩
  intro sum9 q43
  subst q43
  refine GX_iconst hC 0 dX10_sumOf_54 rfl ?_
  refine GX_istore_n hC [some (.ref (gad Γ 62)), some (.int what1), some (.int sum9), some (.int 0)] dX10_sumOf_55 (by decide) rfl rfl ?_
  obtain ⟨o44, e45, h46⟩ := ob h5
  suffices hJ47 : ∀ (sum50 : Int32), sum50 = o44 → GX Γ LAY 0 0 [some (.ref (gad Γ 62)), some (.int what1), some (.int sum50), none] [] m2 89 by
    refine lp_walk (P := fun s => GX Γ LAY 0 0 [some (.ref (gad Γ 62)), some (.int what1), some (.int s.1), some (.int s.2)] [] m2 56) (fun s x hx47 hI47 hO47 => ?_) _ _ e45
    obtain ⟨sum48, p49⟩ := s
    show GX Γ LAY 0 0 [some (.ref (gad Γ 62)), some (.int what1), some (.int sum48), some (.int p49)] [] m2 56
    dsimp only [M_sumOf_s2] at hx47
    refine GX_iload_n hC dX10_sumOf_56 rfl ?_
    refine GX_aload_n hC dX10_sumOf_57 rfl ?_
    refine GX_getI hC fkX10_110 ol_62 rfl dX10_sumOf_58 ?_
    refine GX_icmp_ge_N hC 89 dX10_sumOf_61 (by decide) (fun q => ?_) (fun q => ?_)
    · skip
      have h51 := ifP q hx47
      refine GX_iload_n hC dX10_sumOf_64 rfl ?_
      obtain ⟨x52, e53, h54⟩ := ob h51
      suffices hJ55 : GX Γ LAY 0 0 [some (.ref (gad Γ 62)), some (.int what1), some (.int sum48), some (.int p49)] [.int x52, .int sum48] m2 81 by
        refine GX_iload_n hC dX10_sumOf_65 rfl ?_
        refine GX_bipush hC 7 dX10_sumOf_66 rfl ?_
        refine GX_icmp_ne_N hC 80 dX10_sumOf_68 (by decide) (fun q => ?_) (fun q => ?_)
        · skip
          have h56 := ifP q e53
          refine GX_aload_n hC dX10_sumOf_71 rfl ?_
          refine GX_getR hC fkX10_16 ol_62 rfl dX10_sumOf_72 ?_
          refine GX_iload_n hC dX10_sumOf_75 rfl ?_
          obtain ⟨x57, e58, h59⟩ := ob h56
          refine GX_ldA hC e58 al_65 dX10_sumOf_76 ?_
          refine GX_goto hC 81 dX10_sumOf_77 (by decide) ?_
          exact GX_nm (oi h59) hJ55
        · skip
          have h60 := ifN q e53
          refine GX_iconst hC 0 dX10_sumOf_80 rfl ?_
          exact GX_nm (oi h60) hJ55
      refine GX_iadd hC dX10_sumOf_81 ?_
      obtain ⟨sum61, e62, h63⟩ := ob h54
      refine GX_nm (oi e62) ?_
      refine GX_istore_n hC [some (.ref (gad Γ 62)), some (.int what1), some (.int sum61), some (.int p49)] dX10_sumOf_82 (by decide) rfl rfl ?_
      obtain ⟨i64, e65, h66⟩ := ob h63
      refine GX_iinc hC i64 [some (.ref (gad Γ 62)), some (.int what1), some (.int sum61), some (.int i64)] dX10_sumOf_83 rfl (oi e65) (by decide) rfl rfl ?_
      refine GX_goto hC 56 dX10_sumOf_86 (by decide) ?_
      exact hI47 _ (oi h66).symm
    · skip
      have h67 := ifN q hx47
      exact GX.le (hJ47 _ (hO47 _ (oi h67).symm)) ⟨rfl, ⟨rfl, ⟨rfl, trivial⟩⟩⟩
  intro sum50 q68
  subst q68
  refine GX_iload_n hC dX10_sumOf_89 rfl ?_
  exact GX_iretR hC hR dX10_sumOf_90 (oi h46)
set_option maxRecDepth 100000 in
set_option maxHeartbeats 4000000 in
theorem C_M_count {l : Launch} {what1 : Int32} {m2 : MI} {r0 : Int32} {mr : MI}  (hf : M_count what1 m2 = some (r0, mr)) : Cn l yX10_count cX10_count 2 (some .int) 1 LAY (fun ad => .ref (ad 62) :: [.int what1]) m2 (fun _ => some (.int r0)) mr := by
  refine Cn.of (fun ad => [some (.ref (ad 62)), some (.int what1)]) (by decide +kernel) (fun _ => rfl) (fun _ => Nat.le_of_ble_eq_true rfl) (fun Γ hl hC hR hk => ?_)
  subst hl
  replace hC : CX Γ cX10_count RX10 LAY 1 2 := hC
  dsimp only [M_count] at hf
  refine GX_aload_n hC dX10_count_0 rfl ?_
  refine GX_iconst hC 0 dX10_count_1 rfl ?_
  obtain ⟨m3, e4, h5⟩ := ob hf
  refine GX_stF hC e4 fkX10_99 ftX10_10 ol_62 rfl dX10_count_2 ?_
  refine GX_iload_n hC dX10_count_5 rfl ?_
  by_cases q0 : what1 = 0
  · skip
    have h6 := ifP q0 h5
    refine GX_tableIn hC 0 52 dX10_count_6 q0 (by decide) (by decide) rfl (by decide) ?_
    refine GX_aload_n hC dX10_count_52 rfl ?_
    refine GX_getI hC fkX10_103 ol_62 rfl dX10_count_53 ?_
    exact GX_iretW hC hR dX10_count_56 (oi h6)
  · skip
    have h7 := ifN q0 h5
    by_cases q1 : what1 = 1
    · skip
      have h8 := ifP q1 h7
      refine GX_tableIn hC 1 57 dX10_count_6 q1 (by decide) (by decide) rfl (by decide) ?_
      refine GX_aload_n hC dX10_count_57 rfl ?_
      refine GX_getI hC fkX10_110 ol_62 rfl dX10_count_58 ?_
      exact GX_iretW hC hR dX10_count_61 (oi h8)
    · skip
      have h9 := ifN q1 h7
      by_cases q2 : what1 = 2
      · skip
        have h10 := ifP q2 h9
        refine GX_tableIn hC 2 86 dX10_count_6 q2 (by decide) (by decide) rfl (by decide) ?_
        refine GX_aload_n hC dX10_count_86 rfl ?_
        refine GX_iload_n hC dX10_count_87 rfl ?_
        obtain ⟨r11, e12, h13⟩ := ob h10
        refine GX_callV_i (st := []) hC (C_M_sumOf e12) okX10_sumOf lkX10_328 ol_62 rfl rfl (Nat.le_of_ble_eq_true rfl) (Nat.le_of_ble_eq_true rfl) hk rfl (Nat.le_of_ble_eq_true rfl) dX10_count_88 ?_
        exact GX_iretW hC hR dX10_count_91 (oi h13)
      · skip
        have h14 := ifN q2 h9
        by_cases q3 : what1 = 3
        · skip
          have h15 := ifP q3 h14
          refine GX_tableIn hC 3 86 dX10_count_6 q3 (by decide) (by decide) rfl (by decide) ?_
          refine GX_aload_n hC dX10_count_86 rfl ?_
          refine GX_iload_n hC dX10_count_87 rfl ?_
          obtain ⟨r16, e17, h18⟩ := ob h15
          refine GX_callV_i (st := []) hC (C_M_sumOf e17) okX10_sumOf lkX10_328 ol_62 rfl rfl (Nat.le_of_ble_eq_true rfl) (Nat.le_of_ble_eq_true rfl) hk rfl (Nat.le_of_ble_eq_true rfl) dX10_count_88 ?_
          exact GX_iretW hC hR dX10_count_91 (oi h18)
        · skip
          have h19 := ifN q3 h14
          by_cases q4 : what1 = 4
          · skip
            have h20 := ifP q4 h19
            refine GX_tableIn hC 4 62 dX10_count_6 q4 (by decide) (by decide) rfl (by decide) ?_
            refine GX_aload_n hC dX10_count_62 rfl ?_
            refine GX_iconst hC 1 dX10_count_63 rfl ?_
            obtain ⟨r21, e22, h23⟩ := ob h20
            refine GX_callV_i (st := []) hC (C_M_touches e22) okX10_touches lkX10_325 ol_62 rfl rfl (Nat.le_of_ble_eq_true rfl) (Nat.le_of_ble_eq_true rfl) hk rfl (Nat.le_of_ble_eq_true rfl) dX10_count_64 ?_
            refine GX_aload_n hC dX10_count_67 rfl ?_
            refine GX_iconst hC 2 dX10_count_68 rfl ?_
            obtain ⟨r24, e25, h26⟩ := ob h23
            refine GX_callV_i (st := [.int r21]) hC (C_M_touches e25) okX10_touches lkX10_325 ol_62 rfl rfl (Nat.le_of_ble_eq_true rfl) (Nat.le_of_ble_eq_true rfl) hk rfl (Nat.le_of_ble_eq_true rfl) dX10_count_69 ?_
            refine GX_iadd hC dX10_count_72 ?_
            exact GX_iretW hC hR dX10_count_73 (oi h26)
          · skip
            have h27 := ifN q4 h19
            by_cases q5 : what1 = 5
            · skip
              have h28 := ifP q5 h27
              refine GX_tableIn hC 5 74 dX10_count_6 q5 (by decide) (by decide) rfl (by decide) ?_
              refine GX_aload_n hC dX10_count_74 rfl ?_
              refine GX_iconst hC 2 dX10_count_75 rfl ?_
              obtain ⟨r29, e30, h31⟩ := ob h28
              refine GX_callV_i (st := []) hC (C_M_touches e30) okX10_touches lkX10_325 ol_62 rfl rfl (Nat.le_of_ble_eq_true rfl) (Nat.le_of_ble_eq_true rfl) hk rfl (Nat.le_of_ble_eq_true rfl) dX10_count_76 ?_
              exact GX_iretW hC hR dX10_count_79 (oi h31)
            · skip
              have h32 := ifN q5 h27
              by_cases q6 : what1 = 6
              · skip
                have h33 := ifP q6 h32
                refine GX_tableIn hC 6 80 dX10_count_6 q6 (by decide) (by decide) rfl (by decide) ?_
                refine GX_aload_n hC dX10_count_80 rfl ?_
                refine GX_iconst hC 3 dX10_count_81 rfl ?_
                obtain ⟨r34, e35, h36⟩ := ob h33
                refine GX_callV_i (st := []) hC (C_M_touches e35) okX10_touches lkX10_325 ol_62 rfl rfl (Nat.le_of_ble_eq_true rfl) (Nat.le_of_ble_eq_true rfl) hk rfl (Nat.le_of_ble_eq_true rfl) dX10_count_82 ?_
                exact GX_iretW hC hR dX10_count_85 (oi h36)
              · skip
                have h37 := ifN q6 h32
                by_cases q7 : what1 = 7
                · skip
                  have h38 := ifP q7 h37
                  refine GX_tableIn hC 7 86 dX10_count_6 q7 (by decide) (by decide) rfl (by decide) ?_
                  refine GX_aload_n hC dX10_count_86 rfl ?_
                  refine GX_iload_n hC dX10_count_87 rfl ?_
                  obtain ⟨r39, e40, h41⟩ := ob h38
                  refine GX_callV_i (st := []) hC (C_M_sumOf e40) okX10_sumOf lkX10_328 ol_62 rfl rfl (Nat.le_of_ble_eq_true rfl) (Nat.le_of_ble_eq_true rfl) hk rfl (Nat.le_of_ble_eq_true rfl) dX10_count_88 ?_
                  exact GX_iretW hC hR dX10_count_91 (oi h41)
                · skip
                  have h42 := ifN q7 h37
                  refine GX_tableOut hC 92 dX10_count_6 (by have n0 := sw_ne q0 (z := 0) rfl; have n1 := sw_ne q1 (z := 1) rfl; have n2 := sw_ne q2 (z := 2) rfl; have n3 := sw_ne q3 (z := 3) rfl; have n4 := sw_ne q4 (z := 4) rfl; have n5 := sw_ne q5 (z := 5) rfl; have n6 := sw_ne q6 (z := 6) rfl; have n7 := sw_ne q7 (z := 7) rfl; omega) (by decide) ?_
                  refine GX_iconst hC (-1) dX10_count_92 rfl ?_
                  exact GX_iretW hC hR dX10_count_93 (oi h42)
set_option maxRecDepth 100000 in
set_option maxHeartbeats 4000000 in
theorem C_M_keep {l : Launch} {d1 : Int32} {what2 : Int32} {k3 : Int32} {wfog4 : Int32} {m5 : MI} {r0 : Int32} {mr : MI}  (hf : M_keep d1 what2 k3 wfog4 m5 = some (r0, mr)) : Cn l yX10_keep cX10_keep 5 (some .int) 1 LAY (fun ad => .ref (ad 62) :: [.int d1, .int what2, .int k3, .int wfog4]) m5 (fun _ => some (.int r0)) mr := by
  refine Cn.of (fun ad => [some (.ref (ad 62)), some (.int d1), some (.int what2), some (.int k3), some (.int wfog4)]) (by decide +kernel) (fun _ => rfl) (fun _ => Nat.le_of_ble_eq_true rfl) (fun Γ hl hC hR hk => ?_)
  subst hl
  replace hC : CX Γ cX10_keep RX10 LAY 1 5 := hC
  dsimp only [M_keep] at hf
  refine GX_aload_n hC dX10_keep_0 rfl ?_
  refine GX_iconst hC 0 dX10_keep_1 rfl ?_
  obtain ⟨m6, e7, h8⟩ := ob hf
  refine GX_stF hC e7 fkX10_99 ftX10_10 ol_62 rfl dX10_keep_2 ?_
  obtain ⟨c9, e10, h11⟩ := ob h8
  have hc12 : true = c9 → GX Γ LAY 0 0 [some (.ref (gad Γ 62)), some (.int d1), some (.int what2), some (.int k3), some (.int wfog4)] [] m6 57 := by
    intro q
    have h13 := ifT q.symm h11
    refine GX_iconst hC (-1) dX10_keep_57 rfl ?_
    exact GX_iretW hC hR dX10_keep_58 (oi h13)
  have hc14 : false = c9 → GX Γ LAY 0 0 [some (.ref (gad Γ 62)), some (.int d1), some (.int what2), some (.int k3), some (.int wfog4)] [] m6 59 := by
    intro q
    have h15 := ifF q.symm h11
    refine GX_aload_n hC dX10_keep_59 rfl ?_
    refine GX_getR hC fkX10_77 ol_62 rfl dX10_keep_60 ?_
    refine GX_iload_n hC dX10_keep_63 rfl ?_
    refine GX_iload_n hC dX10_keep_64 rfl ?_
    obtain ⟨m16, e17, h18⟩ := ob h15
    refine GX_stA hC e17 al_85 dX10_keep_65 ?_
    refine GX_aload_n hC dX10_keep_66 rfl ?_
    refine GX_getR hC fkX10_80 ol_62 rfl dX10_keep_67 ?_
    refine GX_iload_n hC dX10_keep_70 rfl ?_
    refine GX_iload_n hC dX10_keep_71 rfl ?_
    obtain ⟨m19, e20, h21⟩ := ob h18
    refine GX_stA hC e20 al_86 dX10_keep_72 ?_
    refine GX_aload_n hC dX10_keep_73 rfl ?_
    refine GX_getR hC fkX10_83 ol_62 rfl dX10_keep_74 ?_
    refine GX_iload_n hC dX10_keep_77 rfl ?_
    refine GX_iload hC dX10_keep_78 rfl ?_
    obtain ⟨m22, e23, h24⟩ := ob h21
    refine GX_stA hC e23 al_87 dX10_keep_80 ?_
    refine GX_iconst hC 0 dX10_keep_81 rfl ?_
    exact GX_iretW hC hR dX10_keep_82 (oi h24)
  refine GX_iload_n hC dX10_keep_5 rfl ?_
  refine GX_i2l hC dX10_keep_6 ?_
  refine GX_lconst hC 0 dX10_keep_7 rfl ?_
  refine GX_ldc2 hC 7 kcX10_214 dX10_keep_8 ?_
  obtain ⟨b25, e26, h27⟩ := ob e10
  refine GX_callS_i (st := []) hC (C_M_in e26) okX10_in lkX10_106 rfl (Nat.le_of_ble_eq_true rfl) (Nat.le_of_ble_eq_true rfl) hk rfl (Nat.le_of_ble_eq_true rfl) dX10_keep_11 ?_
  refine GX_ifb_eq hC 57 dX10_keep_14 (by decide) (fun q => ?_) (fun q => ?_)
  · skip
    have h28 := ifT q h27
    refine GX_iload_n hC dX10_keep_17 rfl ?_
    refine GX_i2l hC dX10_keep_18 ?_
    refine GX_lconst hC 0 dX10_keep_19 rfl ?_
    refine GX_lconst hC 1 dX10_keep_20 rfl ?_
    obtain ⟨b29, e30, h31⟩ := ob h28
    refine GX_callS_i (st := []) hC (C_M_in e30) okX10_in lkX10_106 rfl (Nat.le_of_ble_eq_true rfl) (Nat.le_of_ble_eq_true rfl) hk rfl (Nat.le_of_ble_eq_true rfl) dX10_keep_21 ?_
    refine GX_ifb_eq hC 57 dX10_keep_24 (by decide) (fun q => ?_) (fun q => ?_)
    · skip
      have h32 := ifT q h31
      refine GX_iload_n hC dX10_keep_27 rfl ?_
      refine GX_iconst hC 1 dX10_keep_28 rfl ?_
      refine GX_icmp_ne_N hC 59 dX10_keep_29 (by decide) (fun q => ?_) (fun q => ?_)
      · skip
        have h33 := ifP q h32
        refine GX_iload_n hC dX10_keep_32 rfl ?_
        refine GX_i2l hC dX10_keep_33 ?_
        refine GX_lconst hC 0 dX10_keep_34 rfl ?_
        refine GX_ldc2 hC 7 kcX10_214 dX10_keep_35 ?_
        obtain ⟨b34, e35, h36⟩ := ob h33
        refine GX_callS_i (st := []) hC (C_M_in e35) okX10_in lkX10_106 rfl (Nat.le_of_ble_eq_true rfl) (Nat.le_of_ble_eq_true rfl) hk rfl (Nat.le_of_ble_eq_true rfl) dX10_keep_38 ?_
        refine GX_ifb_eq hC 57 dX10_keep_41 (by decide) (fun q => ?_) (fun q => ?_)
        · skip
          have h37 := ifT q h36
          refine GX_iload hC dX10_keep_44 rfl ?_
          refine GX_i2l hC dX10_keep_46 ?_
          refine GX_lconst hC 0 dX10_keep_47 rfl ?_
          refine GX_ldc2 hC 9999 kcX10_334 dX10_keep_48 ?_
          obtain ⟨b38, e39, h40⟩ := ob h37
          refine GX_callS_i (st := []) hC (C_M_in e39) okX10_in lkX10_106 rfl (Nat.le_of_ble_eq_true rfl) (Nat.le_of_ble_eq_true rfl) hk rfl (Nat.le_of_ble_eq_true rfl) dX10_keep_51 ?_
          refine GX_ifb_ne hC 59 dX10_keep_54 (by decide) (fun q => ?_) (fun q => ?_)
          · skip
            exact hc14 (cbnT q h40)
          · skip
            exact hc12 (cbnF q h40)
        · skip
          have h41 := ifF q h36
          exact hc12 (oi h41)
      · skip
        have h42 := ifN q h32
        exact hc14 (oi h42)
    · skip
      have h43 := ifF q h31
      exact hc12 (oi h43)
  · skip
    have h44 := ifF q h27
    exact hc12 (oi h44)
set_option maxRecDepth 100000 in
set_option maxHeartbeats 4000000 in
theorem C_M_narrowed {l : Launch} {v1 : Int32} {s2 : Int32} {μ0 : MI} {r0 : Int64}  (hf : M_narrowed v1 s2 = some r0) : Cn l yX10_narrowed cX10_narrowed 2 (some .long) 0 LAY (fun ad => [.int v1, .int s2]) μ0 (fun _ => some (.long r0)) μ0 := by
  refine Cn.of (fun ad => [some (.int v1), some (.int s2)]) (by decide +kernel) (fun _ => rfl) (fun _ => Nat.le_of_ble_eq_true rfl) (fun Γ hl hC hR hk => ?_)
  subst hl
  replace hC : CX Γ cX10_narrowed RX10 LAY 0 2 := hC
  dsimp only [M_narrowed] at hf
  obtain ⟨x3, e4, h5⟩ := ob hf
  suffices hJ6 : GX Γ LAY 0 0 [some (.int v1), some (.int s2)] [.long x3] μ0 23 by
    refine GX_iload_n hC dX10_narrowed_0 rfl ?_
    refine GX_if_ne_N hC 10 dX10_narrowed_1 (by decide) (fun q => ?_) (fun q => ?_)
    · skip
      have h7 := ifP q e4
      refine GX_iload_n hC dX10_narrowed_4 rfl ?_
      refine GX_i2b hC dX10_narrowed_5 ?_
      refine GX_i2l hC dX10_narrowed_6 ?_
      refine GX_goto hC 23 dX10_narrowed_7 (by decide) ?_
      exact GX_nml (oi h7) hJ6
    · skip
      have h8 := ifN q e4
      obtain ⟨x9, e10, h11⟩ := ob h8
      suffices hJ12 : GX Γ LAY 0 0 [some (.int v1), some (.int s2)] [.long x9] μ0 23 by
        refine GX_iload_n hC dX10_narrowed_10 rfl ?_
        refine GX_iconst hC 1 dX10_narrowed_11 rfl ?_
        refine GX_icmp_ne_N hC 21 dX10_narrowed_12 (by decide) (fun q => ?_) (fun q => ?_)
        · skip
          have h13 := ifP q e10
          refine GX_iload_n hC dX10_narrowed_15 rfl ?_
          refine GX_i2s hC dX10_narrowed_16 ?_
          refine GX_i2l hC dX10_narrowed_17 ?_
          refine GX_goto hC 23 dX10_narrowed_18 (by decide) ?_
          exact GX_nml (oi h13) hJ12
        · skip
          have h14 := ifN q e10
          refine GX_iload_n hC dX10_narrowed_21 rfl ?_
          refine GX_i2l hC dX10_narrowed_22 ?_
          exact GX_nml (oi h14) hJ12
      exact GX_nml (oi h11) hJ6
  exact GX_lretR hC hR dX10_narrowed_23 (oi h5)
set_option maxRecDepth 100000 in
set_option maxHeartbeats 4000000 in
theorem C_M_row {l : Launch} {d1 : Int32} {s2 : Int32} {n3 : Int32} {m4 : MI} {r0 : Int32} {mr : MI}  (hf : M_row d1 s2 n3 m4 = some (r0, mr)) : Cn l yX10_row cX10_row 5 (some .int) 1 LAY (fun ad => .ref (ad 62) :: [.int d1, .int s2, .int n3]) m4 (fun _ => some (.int r0)) mr := by
  refine Cn.of (fun ad => [some (.ref (ad 62)), some (.int d1), some (.int s2), some (.int n3), none]) (by decide +kernel) (fun _ => rfl) (fun _ => Nat.le_of_ble_eq_true rfl) (fun Γ hl hC hR hk => ?_)
  subst hl
  replace hC : CX Γ cX10_row RX10 LAY 1 5 := hC
  dsimp only [M_row] at hf
  refine GX_aload_n hC dX10_row_0 rfl ?_
  refine GX_iconst hC 0 dX10_row_1 rfl ?_
  obtain ⟨m5, e6, h7⟩ := ob hf
  refine GX_stF hC e6 fkX10_99 ftX10_10 ol_62 rfl dX10_row_2 ?_
  obtain ⟨c8, e9, h10⟩ := ob h7
  have hc11 : true = c8 → GX Γ LAY 0 0 [some (.ref (gad Γ 62)), some (.int d1), some (.int s2), some (.int n3), none] [] m5 35 := by
    intro q
    have h12 := ifT q.symm h10
    refine GX_iconst hC (-1) dX10_row_35 rfl ?_
    exact GX_iretW hC hR dX10_row_36 (oi h12)
  have hc13 : false = c8 → GX Γ LAY 0 0 [some (.ref (gad Γ 62)), some (.int d1), some (.int s2), some (.int n3), none] [] m5 37 := by
    intro q
    have h14 := ifF q.symm h10
    refine GX_iload_n hC dX10_row_37 rfl ?_
    refine GX_if_ge_N hC 44 dX10_row_38 (by decide) (fun q => ?_) (fun q => ?_)
    · skip
      have h15 := ifP q h14
      refine GX_bipush hC (-14) dX10_row_41 rfl ?_
      exact GX_iretW hC hR dX10_row_43 (oi h15)
    · skip
      have h16 := ifN q h14
      refine GX_aload_n hC dX10_row_44 rfl ?_
      refine GX_getR hC fkX10_77 ol_62 rfl dX10_row_45 ?_
      refine GX_iload_n hC dX10_row_48 rfl ?_
      refine GX_iconst hC 2 dX10_row_49 rfl ?_
      obtain ⟨m17, e18, h19⟩ := ob h16
      refine GX_stA hC e18 al_85 dX10_row_50 ?_
      refine GX_aload_n hC dX10_row_51 rfl ?_
      refine GX_getR hC fkX10_86 ol_62 rfl dX10_row_52 ?_
      refine GX_iload_n hC dX10_row_55 rfl ?_
      refine GX_iload_n hC dX10_row_56 rfl ?_
      obtain ⟨m20, e21, h22⟩ := ob h19
      refine GX_stA hC e21 al_88 dX10_row_57 ?_
      refine GX_aload_n hC dX10_row_58 rfl ?_
      refine GX_getR hC fkX10_89 ol_62 rfl dX10_row_59 ?_
      refine GX_iload_n hC dX10_row_62 rfl ?_
      refine GX_iload_n hC dX10_row_63 rfl ?_
      obtain ⟨m23, e24, h25⟩ := ob h22
      refine GX_stA hC e24 al_89 dX10_row_64 ?_
      refine GX_iconst hC 0 dX10_row_65 rfl ?_
      refine GX_istore hC [some (.ref (gad Γ 62)), some (.int d1), some (.int s2), some (.int n3), some (.int 0)] dX10_row_66 (by decide) rfl rfl ?_
      obtain ⟨o26, e27, h28⟩ := ob h25
      suffices hJ29 : ∀ (m32 : MI), m32 = o26 → GX Γ LAY 0 0 [some (.ref (gad Γ 62)), some (.int d1), some (.int s2), some (.int n3), none] [] m32 94 by
        refine lp_walk (P := fun s => GX Γ LAY 0 0 [some (.ref (gad Γ 62)), some (.int d1), some (.int s2), some (.int n3), some (.int s.1)] [] s.2 68) (fun s x hx29 hI29 hO29 => ?_) _ _ e27
        obtain ⟨i30, m31⟩ := s
        show GX Γ LAY 0 0 [some (.ref (gad Γ 62)), some (.int d1), some (.int s2), some (.int n3), some (.int i30)] [] m31 68
        dsimp only [M_row_s1] at hx29
        refine GX_iload hC dX10_row_68 rfl ?_
        refine GX_bipush hC 100 dX10_row_70 rfl ?_
        refine GX_icmp_ge_N hC 94 dX10_row_72 (by decide) (fun q => ?_) (fun q => ?_)
        · skip
          have h33 := ifP q hx29
          refine GX_aload_n hC dX10_row_75 rfl ?_
          refine GX_getR hC fkX10_92 ol_62 rfl dX10_row_76 ?_
          refine GX_bipush hC 100 dX10_row_79 rfl ?_
          refine GX_iload_n hC dX10_row_81 rfl ?_
          refine GX_imul hC dX10_row_82 ?_
          refine GX_iload hC dX10_row_83 rfl ?_
          refine GX_iadd hC dX10_row_85 ?_
          refine GX_lconst hC 0 dX10_row_86 rfl ?_
          obtain ⟨m34, e35, h36⟩ := ob h33
          refine GX_stL hC e35 al_90 dX10_row_87 ?_
          obtain ⟨i37, e38, h39⟩ := ob h36
          refine GX_iinc hC i37 [some (.ref (gad Γ 62)), some (.int d1), some (.int s2), some (.int n3), some (.int i37)] dX10_row_88 rfl (oi e38) (by decide) rfl rfl ?_
          refine GX_goto hC 68 dX10_row_91 (by decide) ?_
          exact hI29 _ (oi h39).symm
        · skip
          have h40 := ifN q hx29
          exact GX.le (hJ29 _ (hO29 _ (oi h40).symm)) ⟨rfl, ⟨rfl, ⟨rfl, ⟨rfl, trivial⟩⟩⟩⟩
      intro m32 q41
      subst q41
      refine GX_iconst hC 0 dX10_row_94 rfl ?_
      exact GX_iretW hC hR dX10_row_95 (oi h28)
  refine GX_iload_n hC dX10_row_5 rfl ?_
  refine GX_i2l hC dX10_row_6 ?_
  refine GX_lconst hC 0 dX10_row_7 rfl ?_
  refine GX_ldc2 hC 7 kcX10_214 dX10_row_8 ?_
  obtain ⟨b42, e43, h44⟩ := ob e9
  refine GX_callS_i (st := []) hC (C_M_in e43) okX10_in lkX10_106 rfl (Nat.le_of_ble_eq_true rfl) (Nat.le_of_ble_eq_true rfl) hk rfl (Nat.le_of_ble_eq_true rfl) dX10_row_11 ?_
  refine GX_ifb_eq hC 35 dX10_row_14 (by decide) (fun q => ?_) (fun q => ?_)
  · skip
    have h45 := ifT q h44
    refine GX_iload_n hC dX10_row_17 rfl ?_
    refine GX_i2l hC dX10_row_18 ?_
    refine GX_lconst hC 0 dX10_row_19 rfl ?_
    refine GX_ldc2 hC 2 kcX10_197 dX10_row_20 ?_
    obtain ⟨b46, e47, h48⟩ := ob h45
    refine GX_callS_i (st := []) hC (C_M_in e47) okX10_in lkX10_106 rfl (Nat.le_of_ble_eq_true rfl) (Nat.le_of_ble_eq_true rfl) hk rfl (Nat.le_of_ble_eq_true rfl) dX10_row_23 ?_
    refine GX_ifb_eq hC 35 dX10_row_26 (by decide) (fun q => ?_) (fun q => ?_)
    · skip
      have h49 := ifT q h48
      refine GX_iload_n hC dX10_row_29 rfl ?_
      refine GX_bipush hC 100 dX10_row_30 rfl ?_
      refine GX_icmp_le_N hC 37 dX10_row_32 (by decide) (fun q => ?_) (fun q => ?_)
      · skip
        exact hc11 (cdT q h49)
      · skip
        exact hc13 (cdF q h49)
    · skip
      have h50 := ifF q h48
      exact hc11 (oi h50)
  · skip
    have h51 := ifF q h44
    exact hc11 (oi h51)
set_option maxRecDepth 100000 in
set_option maxHeartbeats 4000000 in
theorem C_M_put {l : Launch} {d1 : Int32} {i2 : Int32} {v3 : Int32} {m4 : MI} {r0 : Int32} {mr : MI}  (hf : M_put d1 i2 v3 m4 = some (r0, mr)) : Cn l yX10_put cX10_put 5 (some .int) 2 LAY (fun ad => .ref (ad 62) :: [.int d1, .int i2, .int v3]) m4 (fun _ => some (.int r0)) mr := by
  refine Cn.of (fun ad => [some (.ref (ad 62)), some (.int d1), some (.int i2), some (.int v3), none]) (by decide +kernel) (fun _ => rfl) (fun _ => Nat.le_of_ble_eq_true rfl) (fun Γ hl hC hR hk => ?_)
  subst hl
  replace hC : CX Γ cX10_put RX10 LAY 2 5 := hC
  dsimp only [M_put] at hf
  refine GX_aload_n hC dX10_put_0 rfl ?_
  refine GX_iconst hC 0 dX10_put_1 rfl ?_
  obtain ⟨m5, e6, h7⟩ := ob hf
  refine GX_stF hC e6 fkX10_99 ftX10_10 ol_62 rfl dX10_put_2 ?_
  refine GX_aload_n hC dX10_put_5 rfl ?_
  refine GX_iload_n hC dX10_put_6 rfl ?_
  obtain ⟨r8, e9, h10⟩ := ob h7
  refine GX_callV_i (st := []) hC (C_M_wrongRow e9) okX10_wrongRow lkX10_331 ol_62 rfl rfl (Nat.le_of_ble_eq_true rfl) (Nat.le_of_ble_eq_true rfl) hk rfl (Nat.le_of_ble_eq_true rfl) dX10_put_7 ?_
  refine GX_istore hC [some (.ref (gad Γ 62)), some (.int d1), some (.int i2), some (.int v3), some (.int r8)] dX10_put_10 (by decide) rfl rfl ?_
  refine GX_iload hC dX10_put_12 rfl ?_
  refine GX_if_ge_N hC 20 dX10_put_14 (by decide) (fun q => ?_) (fun q => ?_)
  · skip
    have h11 := ifP q h10
    refine GX_iload hC dX10_put_17 rfl ?_
    exact GX_iretW hC hR dX10_put_19 (oi h11)
  · skip
    have h12 := ifN q h10
    refine GX_iload_n hC dX10_put_20 rfl ?_
    refine GX_i2l hC dX10_put_21 ?_
    refine GX_lconst hC 0 dX10_put_22 rfl ?_
    refine GX_aload_n hC dX10_put_23 rfl ?_
    refine GX_getR hC fkX10_89 ol_62 rfl dX10_put_24 ?_
    refine GX_iload_n hC dX10_put_27 rfl ?_
    obtain ⟨x13, e14, h15⟩ := ob h12
    refine GX_ldA hC e14 al_89 dX10_put_28 ?_
    refine GX_iconst hC 1 dX10_put_29 rfl ?_
    refine GX_isub hC dX10_put_30 ?_
    refine GX_i2l hC dX10_put_31 ?_
    obtain ⟨b16, e17, h18⟩ := ob h15
    refine GX_callS_i (st := []) hC (C_M_in e17) okX10_in lkX10_106 rfl (Nat.le_of_ble_eq_true rfl) (Nat.le_of_ble_eq_true rfl) hk rfl (Nat.le_of_ble_eq_true rfl) dX10_put_32 ?_
    refine GX_ifb_ne hC 41 dX10_put_35 (by decide) (fun q => ?_) (fun q => ?_)
    · skip
      have h19 := ifT q h18
      refine GX_aload_n hC dX10_put_41 rfl ?_
      refine GX_getR hC fkX10_92 ol_62 rfl dX10_put_42 ?_
      refine GX_bipush hC 100 dX10_put_45 rfl ?_
      refine GX_iload_n hC dX10_put_47 rfl ?_
      refine GX_imul hC dX10_put_48 ?_
      refine GX_iload_n hC dX10_put_49 rfl ?_
      refine GX_iadd hC dX10_put_50 ?_
      refine GX_iload_n hC dX10_put_51 rfl ?_
      refine GX_aload_n hC dX10_put_52 rfl ?_
      refine GX_getR hC fkX10_86 ol_62 rfl dX10_put_53 ?_
      refine GX_iload_n hC dX10_put_56 rfl ?_
      obtain ⟨x20, e21, h22⟩ := ob h19
      refine GX_ldA hC e21 al_88 dX10_put_57 ?_
      obtain ⟨r23, e24, h25⟩ := ob h22
      refine GX_callS_l (st := [.int ((100 * d1) + i2), .ref (gad Γ 90)]) hC (C_M_narrowed e24) okX10_narrowed lkX10_336 rfl (Nat.le_of_ble_eq_true rfl) (Nat.le_of_ble_eq_true rfl) hk rfl (Nat.le_of_ble_eq_true rfl) dX10_put_58 ?_
      obtain ⟨m26, e27, h28⟩ := ob h25
      refine GX_stL hC e27 al_90 dX10_put_61 ?_
      refine GX_iconst hC 0 dX10_put_62 rfl ?_
      exact GX_iretW hC hR dX10_put_63 (oi h28)
    · skip
      have h29 := ifF q h18
      refine GX_bipush hC (-13) dX10_put_38 rfl ?_
      exact GX_iretW hC hR dX10_put_40 (oi h29)
set_option maxRecDepth 100000 in
set_option maxHeartbeats 4000000 in
theorem C_M_element {l : Launch} {d1 : Int32} {i2 : Int32} {m3 : MI} {r0 : Int64} {mr : MI}  (hf : M_element d1 i2 m3 = some (r0, mr)) : Cn l yX10_element cX10_element 4 (some .long) 2 LAY (fun ad => .ref (ad 62) :: [.int d1, .int i2]) m3 (fun _ => some (.long r0)) mr := by
  refine Cn.of (fun ad => [some (.ref (ad 62)), some (.int d1), some (.int i2), none]) (by decide +kernel) (fun _ => rfl) (fun _ => Nat.le_of_ble_eq_true rfl) (fun Γ hl hC hR hk => ?_)
  subst hl
  replace hC : CX Γ cX10_element RX10 LAY 2 4 := hC
  dsimp only [M_element] at hf
  refine GX_aload_n hC dX10_element_0 rfl ?_
  refine GX_iload_n hC dX10_element_1 rfl ?_
  obtain ⟨r4, e5, h6⟩ := ob hf
  refine GX_callV_i (st := []) hC (C_M_wrongRow e5) okX10_wrongRow lkX10_331 ol_62 rfl rfl (Nat.le_of_ble_eq_true rfl) (Nat.le_of_ble_eq_true rfl) hk rfl (Nat.le_of_ble_eq_true rfl) dX10_element_2 ?_
  refine GX_istore_n hC [some (.ref (gad Γ 62)), some (.int d1), some (.int i2), some (.int r4)] dX10_element_5 (by decide) rfl rfl ?_
  refine GX_aload_n hC dX10_element_6 rfl ?_
  obtain ⟨x7, e8, h9⟩ := ob h6
  suffices hJ10 : GX Γ LAY 0 0 [some (.ref (gad Γ 62)), some (.int d1), some (.int i2), some (.int r4)] [.int x7, .ref (gad Γ 62)] m3 43 by
    refine GX_iload_n hC dX10_element_7 rfl ?_
    refine GX_iconst hC (-1) dX10_element_8 rfl ?_
    refine GX_icmp_ne_N hC 16 dX10_element_9 (by decide) (fun q => ?_) (fun q => ?_)
    · skip
      have h11 := ifP q e8
      refine GX_iconst hC 1 dX10_element_12 rfl ?_
      refine GX_goto hC 43 dX10_element_13 (by decide) ?_
      exact GX_nm (oi h11) hJ10
    · skip
      have h12 := ifN q e8
      obtain ⟨x13, e14, h15⟩ := ob h12
      suffices hJ16 : GX Γ LAY 0 0 [some (.ref (gad Γ 62)), some (.int d1), some (.int i2), some (.int r4)] [.int x13, .ref (gad Γ 62)] m3 43 by
        obtain ⟨c17, e18, h19⟩ := ob e14
        have hc20 : true = c17 → GX Γ LAY 0 0 [some (.ref (gad Γ 62)), some (.int d1), some (.int i2), some (.int r4)] [.ref (gad Γ 62)] m3 38 := by
          intro q
          have h21 := ifT q.symm h19
          refine GX_iconst hC 2 dX10_element_38 rfl ?_
          refine GX_goto hC 43 dX10_element_39 (by decide) ?_
          exact GX_nm (oi h21) hJ16
        have hc22 : false = c17 → GX Γ LAY 0 0 [some (.ref (gad Γ 62)), some (.int d1), some (.int i2), some (.int r4)] [.ref (gad Γ 62)] m3 42 := by
          intro q
          have h23 := ifF q.symm h19
          refine GX_iconst hC 0 dX10_element_42 rfl ?_
          exact GX_nm (oi h23) hJ16
        refine GX_iload_n hC dX10_element_16 rfl ?_
        refine GX_if_lt_P hC 38 dX10_element_17 (by decide) (fun q => ?_) (fun q => ?_)
        · skip
          have h24 := ifP q e18
          exact hc20 (oi h24)
        · skip
          have h25 := ifN q e18
          refine GX_iload_n hC dX10_element_20 rfl ?_
          refine GX_i2l hC dX10_element_21 ?_
          refine GX_lconst hC 0 dX10_element_22 rfl ?_
          refine GX_aload_n hC dX10_element_23 rfl ?_
          refine GX_getR hC fkX10_89 ol_62 rfl dX10_element_24 ?_
          refine GX_iload_n hC dX10_element_27 rfl ?_
          obtain ⟨x26, e27, h28⟩ := ob h25
          refine GX_ldA hC e27 al_89 dX10_element_28 ?_
          refine GX_iconst hC 1 dX10_element_29 rfl ?_
          refine GX_isub hC dX10_element_30 ?_
          refine GX_i2l hC dX10_element_31 ?_
          obtain ⟨b29, e30, h31⟩ := ob h28
          refine GX_callS_i (st := [.ref (gad Γ 62)]) hC (C_M_in e30) okX10_in lkX10_106 rfl (Nat.le_of_ble_eq_true rfl) (Nat.le_of_ble_eq_true rfl) hk rfl (Nat.le_of_ble_eq_true rfl) dX10_element_32 ?_
          refine GX_ifb_ne hC 42 dX10_element_35 (by decide) (fun q => ?_) (fun q => ?_)
          · skip
            exact hc22 (cbnT q h31)
          · skip
            exact hc20 (cbnF q h31)
      exact GX_nm (oi h15) hJ10
  obtain ⟨m32, e33, h34⟩ := ob h9
  refine GX_stF hC e33 fkX10_99 ftX10_10 ol_62 rfl dX10_element_43 ?_
  obtain ⟨x35, e36, h37⟩ := ob h34
  suffices hJ38 : GX Γ LAY 0 0 [some (.ref (gad Γ 62)), some (.int d1), some (.int i2), some (.int r4)] [.long x35] m32 68 by
    refine GX_aload_n hC dX10_element_46 rfl ?_
    refine GX_getI hC fkX10_99 ol_62 rfl dX10_element_47 ?_
    refine GX_if_le_N hC 57 dX10_element_50 (by decide) (fun q => ?_) (fun q => ?_)
    · skip
      have h39 := ifP q e36
      refine GX_lconst hC 0 dX10_element_53 rfl ?_
      refine GX_goto hC 68 dX10_element_54 (by decide) ?_
      exact GX_nml (oi h39) hJ38
    · skip
      have h40 := ifN q e36
      refine GX_aload_n hC dX10_element_57 rfl ?_
      refine GX_getR hC fkX10_92 ol_62 rfl dX10_element_58 ?_
      refine GX_bipush hC 100 dX10_element_61 rfl ?_
      refine GX_iload_n hC dX10_element_63 rfl ?_
      refine GX_imul hC dX10_element_64 ?_
      refine GX_iload_n hC dX10_element_65 rfl ?_
      refine GX_iadd hC dX10_element_66 ?_
      obtain ⟨x41, e42, h43⟩ := ob h40
      refine GX_ldL hC e42 al_90 dX10_element_67 ?_
      exact GX_nml (oi h43) hJ38
  exact GX_lretW hC hR dX10_element_68 (oi h37)
set_option maxRecDepth 100000 in
set_option maxHeartbeats 4000000 in
theorem C_M_copy {l : Launch} {d1 : Int32} {i2 : Int32} {e3 : Int32} {j4 : Int32} {n5 : Int32} {m6 : MI} {r0 : Int32} {mr : MI}  (hf : M_copy d1 i2 e3 j4 n5 m6 = some (r0, mr)) : Cn l yX10_copy cX10_copy 7 (some .int) 1 LAY (fun ad => .ref (ad 62) :: [.int d1, .int i2, .int e3, .int j4, .int n5]) m6 (fun _ => some (.int r0)) mr := by
  refine Cn.of (fun ad => [some (.ref (ad 62)), some (.int d1), some (.int i2), some (.int e3), some (.int j4), some (.int n5), none]) (by decide +kernel) (fun _ => rfl) (fun _ => Nat.le_of_ble_eq_true rfl) (fun Γ hl hC hR hk => ?_)
  subst hl
  replace hC : CX Γ cX10_copy RX10 LAY 1 7 := hC
  dsimp only [M_copy] at hf
  refine GX_aload_n hC dX10_copy_0 rfl ?_
  refine GX_iconst hC 0 dX10_copy_1 rfl ?_
  obtain ⟨m7, e8, h9⟩ := ob hf
  refine GX_stF hC e8 fkX10_99 ftX10_10 ol_62 rfl dX10_copy_2 ?_
  obtain ⟨c10, e11, h12⟩ := ob h9
  have hc13 : true = c10 → GX Γ LAY 0 0 [some (.ref (gad Γ 62)), some (.int d1), some (.int i2), some (.int e3), some (.int j4), some (.int n5), none] [] m7 29 := by
    intro q
    have h14 := ifT q.symm h12
    refine GX_iconst hC (-1) dX10_copy_29 rfl ?_
    exact GX_iretW hC hR dX10_copy_30 (oi h14)
  have hc15 : false = c10 → GX Γ LAY 0 0 [some (.ref (gad Γ 62)), some (.int d1), some (.int i2), some (.int e3), some (.int j4), some (.int n5), none] [] m7 31 := by
    intro q
    have h16 := ifF q.symm h12
    obtain ⟨c17, e18, h19⟩ := ob h16
    have hc20 : true = c17 → GX Γ LAY 0 0 [some (.ref (gad Γ 62)), some (.int d1), some (.int i2), some (.int e3), some (.int j4), some (.int n5), none] [] m7 49 := by
      intro q
      have h21 := ifT q.symm h19
      refine GX_bipush hC (-11) dX10_copy_49 rfl ?_
      exact GX_iretW hC hR dX10_copy_51 (oi h21)
    have hc22 : false = c17 → GX Γ LAY 0 0 [some (.ref (gad Γ 62)), some (.int d1), some (.int i2), some (.int e3), some (.int j4), some (.int n5), none] [] m7 52 := by
      intro q
      have h23 := ifF q.symm h19
      obtain ⟨c24, e25, h26⟩ := ob h23
      have hc27 : true = c24 → GX Γ LAY 0 0 [some (.ref (gad Γ 62)), some (.int d1), some (.int i2), some (.int e3), some (.int j4), some (.int n5), none] [] m7 87 := by
        intro q
        have h28 := ifT q.symm h26
        refine GX_bipush hC (-12) dX10_copy_87 rfl ?_
        exact GX_iretW hC hR dX10_copy_89 (oi h28)
      have hc29 : false = c24 → GX Γ LAY 0 0 [some (.ref (gad Γ 62)), some (.int d1), some (.int i2), some (.int e3), some (.int j4), some (.int n5), none] [] m7 90 := by
        intro q
        have h30 := ifF q.symm h26
        obtain ⟨c31, e32, h33⟩ := ob h30
        have hc34 : true = c31 → GX Γ LAY 0 0 [some (.ref (gad Γ 62)), some (.int d1), some (.int i2), some (.int e3), some (.int j4), some (.int n5), none] [] m7 131 := by
          intro q
          have h35 := ifT q.symm h33
          refine GX_bipush hC (-13) dX10_copy_131 rfl ?_
          exact GX_iretW hC hR dX10_copy_133 (oi h35)
        have hc36 : false = c31 → GX Γ LAY 0 0 [some (.ref (gad Γ 62)), some (.int d1), some (.int i2), some (.int e3), some (.int j4), some (.int n5), none] [] m7 134 := by
          intro q
          have h37 := ifF q.symm h33
          refine GX_iconst hC 0 dX10_copy_134 rfl ?_
          refine GX_istore hC [some (.ref (gad Γ 62)), some (.int d1), some (.int i2), some (.int e3), some (.int j4), some (.int n5), some (.int 0)] dX10_copy_135 (by decide) rfl rfl ?_
          obtain ⟨o38, e39, h40⟩ := ob h37
          suffices hJ41 : ∀ (m44 : MI), m44 = o38 → GX Γ LAY 0 0 [some (.ref (gad Γ 62)), some (.int d1), some (.int i2), some (.int e3), some (.int j4), some (.int n5), none] [] m44 171 by
            refine lp_walk (P := fun s => GX Γ LAY 0 0 [some (.ref (gad Γ 62)), some (.int d1), some (.int i2), some (.int e3), some (.int j4), some (.int n5), some (.int s.1)] [] s.2 137) (fun s x hx41 hI41 hO41 => ?_) _ _ e39
            obtain ⟨k42, m43⟩ := s
            show GX Γ LAY 0 0 [some (.ref (gad Γ 62)), some (.int d1), some (.int i2), some (.int e3), some (.int j4), some (.int n5), some (.int k42)] [] m43 137
            dsimp only [M_copy_s1] at hx41
            refine GX_iload hC dX10_copy_137 rfl ?_
            refine GX_iload hC dX10_copy_139 rfl ?_
            refine GX_icmp_ge_N hC 171 dX10_copy_141 (by decide) (fun q => ?_) (fun q => ?_)
            · skip
              have h45 := ifP q hx41
              refine GX_aload_n hC dX10_copy_144 rfl ?_
              refine GX_getR hC fkX10_96 ol_62 rfl dX10_copy_145 ?_
              refine GX_iload hC dX10_copy_148 rfl ?_
              refine GX_aload_n hC dX10_copy_150 rfl ?_
              refine GX_getR hC fkX10_92 ol_62 rfl dX10_copy_151 ?_
              refine GX_bipush hC 100 dX10_copy_154 rfl ?_
              refine GX_iload_n hC dX10_copy_156 rfl ?_
              refine GX_imul hC dX10_copy_157 ?_
              refine GX_iload_n hC dX10_copy_158 rfl ?_
              refine GX_iadd hC dX10_copy_159 ?_
              refine GX_iload hC dX10_copy_160 rfl ?_
              refine GX_iadd hC dX10_copy_162 ?_
              obtain ⟨x46, e47, h48⟩ := ob h45
              refine GX_ldL hC e47 al_90 dX10_copy_163 ?_
              obtain ⟨m49, e50, h51⟩ := ob h48
              refine GX_stL hC e50 al_91 dX10_copy_164 ?_
              obtain ⟨i52, e53, h54⟩ := ob h51
              refine GX_iinc hC i52 [some (.ref (gad Γ 62)), some (.int d1), some (.int i2), some (.int e3), some (.int j4), some (.int n5), some (.int i52)] dX10_copy_165 rfl (oi e53) (by decide) rfl rfl ?_
              refine GX_goto hC 137 dX10_copy_168 (by decide) ?_
              exact hI41 _ (oi h54).symm
            · skip
              have h55 := ifN q hx41
              exact GX.le (hJ41 _ (hO41 _ (oi h55).symm)) ⟨rfl, ⟨rfl, ⟨rfl, ⟨rfl, ⟨rfl, ⟨rfl, trivial⟩⟩⟩⟩⟩⟩
          intro m44 q56
          subst q56
          refine GX_iconst hC 0 dX10_copy_171 rfl ?_
          refine GX_istore hC [some (.ref (gad Γ 62)), some (.int d1), some (.int i2), some (.int e3), some (.int j4), some (.int n5), some (.int 0)] dX10_copy_172 (by decide) rfl rfl ?_
          obtain ⟨o57, e58, h59⟩ := ob h40
          suffices hJ60 : ∀ (m63 : MI), m63 = o57 → GX Γ LAY 0 0 [some (.ref (gad Γ 62)), some (.int d1), some (.int i2), some (.int e3), some (.int j4), some (.int n5), none] [] m63 209 by
            refine lp_walk (P := fun s => GX Γ LAY 0 0 [some (.ref (gad Γ 62)), some (.int d1), some (.int i2), some (.int e3), some (.int j4), some (.int n5), some (.int s.1)] [] s.2 174) (fun s x hx60 hI60 hO60 => ?_) _ _ e58
            obtain ⟨k61, m62⟩ := s
            show GX Γ LAY 0 0 [some (.ref (gad Γ 62)), some (.int d1), some (.int i2), some (.int e3), some (.int j4), some (.int n5), some (.int k61)] [] m62 174
            dsimp only [M_copy_s2] at hx60
            refine GX_iload hC dX10_copy_174 rfl ?_
            refine GX_iload hC dX10_copy_176 rfl ?_
            refine GX_icmp_ge_N hC 209 dX10_copy_178 (by decide) (fun q => ?_) (fun q => ?_)
            · skip
              have h64 := ifP q hx60
              refine GX_aload_n hC dX10_copy_181 rfl ?_
              refine GX_getR hC fkX10_92 ol_62 rfl dX10_copy_182 ?_
              refine GX_bipush hC 100 dX10_copy_185 rfl ?_
              refine GX_iload_n hC dX10_copy_187 rfl ?_
              refine GX_imul hC dX10_copy_188 ?_
              refine GX_iload hC dX10_copy_189 rfl ?_
              refine GX_iadd hC dX10_copy_191 ?_
              refine GX_iload hC dX10_copy_192 rfl ?_
              refine GX_iadd hC dX10_copy_194 ?_
              refine GX_aload_n hC dX10_copy_195 rfl ?_
              refine GX_getR hC fkX10_96 ol_62 rfl dX10_copy_196 ?_
              refine GX_iload hC dX10_copy_199 rfl ?_
              obtain ⟨x65, e66, h67⟩ := ob h64
              refine GX_ldL hC e66 al_91 dX10_copy_201 ?_
              obtain ⟨m68, e69, h70⟩ := ob h67
              refine GX_stL hC e69 al_90 dX10_copy_202 ?_
              obtain ⟨i71, e72, h73⟩ := ob h70
              refine GX_iinc hC i71 [some (.ref (gad Γ 62)), some (.int d1), some (.int i2), some (.int e3), some (.int j4), some (.int n5), some (.int i71)] dX10_copy_203 rfl (oi e72) (by decide) rfl rfl ?_
              refine GX_goto hC 174 dX10_copy_206 (by decide) ?_
              exact hI60 _ (oi h73).symm
            · skip
              have h74 := ifN q hx60
              exact GX.le (hJ60 _ (hO60 _ (oi h74).symm)) ⟨rfl, ⟨rfl, ⟨rfl, ⟨rfl, ⟨rfl, ⟨rfl, trivial⟩⟩⟩⟩⟩⟩
          intro m63 q75
          subst q75
          refine GX_iload hC dX10_copy_209 rfl ?_
          exact GX_iretW hC hR dX10_copy_211 (oi h59)
        refine GX_iload hC dX10_copy_90 rfl ?_
        refine GX_if_lt_P hC 131 dX10_copy_92 (by decide) (fun q => ?_) (fun q => ?_)
        · skip
          have h76 := ifP q e32
          exact hc34 (oi h76)
        · skip
          have h77 := ifN q e32
          refine GX_iload_n hC dX10_copy_95 rfl ?_
          refine GX_if_lt_P hC 131 dX10_copy_96 (by decide) (fun q => ?_) (fun q => ?_)
          · skip
            have h78 := ifP q h77
            exact hc34 (oi h78)
          · skip
            have h79 := ifN q h77
            refine GX_iload hC dX10_copy_99 rfl ?_
            refine GX_if_lt_P hC 131 dX10_copy_101 (by decide) (fun q => ?_) (fun q => ?_)
            · skip
              have h80 := ifP q h79
              exact hc34 (oi h80)
            · skip
              have h81 := ifN q h79
              refine GX_iload_n hC dX10_copy_104 rfl ?_
              refine GX_aload_n hC dX10_copy_105 rfl ?_
              refine GX_getR hC fkX10_89 ol_62 rfl dX10_copy_106 ?_
              refine GX_iload_n hC dX10_copy_109 rfl ?_
              obtain ⟨x82, e83, h84⟩ := ob h81
              refine GX_ldA hC e83 al_89 dX10_copy_110 ?_
              refine GX_iload hC dX10_copy_111 rfl ?_
              refine GX_isub hC dX10_copy_113 ?_
              refine GX_icmp_gt_P hC 131 dX10_copy_114 (by decide) (fun q => ?_) (fun q => ?_)
              · skip
                have h85 := ifP q h84
                exact hc34 (oi h85)
              · skip
                have h86 := ifN q h84
                refine GX_iload hC dX10_copy_117 rfl ?_
                refine GX_aload_n hC dX10_copy_119 rfl ?_
                refine GX_getR hC fkX10_89 ol_62 rfl dX10_copy_120 ?_
                refine GX_iload_n hC dX10_copy_123 rfl ?_
                obtain ⟨x87, e88, h89⟩ := ob h86
                refine GX_ldA hC e88 al_89 dX10_copy_124 ?_
                refine GX_iload hC dX10_copy_125 rfl ?_
                refine GX_isub hC dX10_copy_127 ?_
                refine GX_icmp_le_N hC 134 dX10_copy_128 (by decide) (fun q => ?_) (fun q => ?_)
                · skip
                  exact hc34 (cdT q h89)
                · skip
                  exact hc36 (cdF q h89)
      refine GX_aload_n hC dX10_copy_52 rfl ?_
      refine GX_getR hC fkX10_77 ol_62 rfl dX10_copy_53 ?_
      refine GX_iload_n hC dX10_copy_56 rfl ?_
      obtain ⟨x90, e91, h92⟩ := ob e25
      refine GX_ldA hC e91 al_85 dX10_copy_57 ?_
      refine GX_iconst hC 2 dX10_copy_58 rfl ?_
      refine GX_icmp_ne_P hC 87 dX10_copy_59 (by decide) (fun q => ?_) (fun q => ?_)
      · skip
        have h93 := ifP q h92
        exact hc27 (oi h93)
      · skip
        have h94 := ifN q h92
        refine GX_aload_n hC dX10_copy_62 rfl ?_
        refine GX_getR hC fkX10_77 ol_62 rfl dX10_copy_63 ?_
        refine GX_iload_n hC dX10_copy_66 rfl ?_
        obtain ⟨x95, e96, h97⟩ := ob h94
        refine GX_ldA hC e96 al_85 dX10_copy_67 ?_
        refine GX_iconst hC 2 dX10_copy_68 rfl ?_
        refine GX_icmp_ne_P hC 87 dX10_copy_69 (by decide) (fun q => ?_) (fun q => ?_)
        · skip
          have h98 := ifP q h97
          exact hc27 (oi h98)
        · skip
          have h99 := ifN q h97
          refine GX_aload_n hC dX10_copy_72 rfl ?_
          refine GX_getR hC fkX10_86 ol_62 rfl dX10_copy_73 ?_
          refine GX_iload_n hC dX10_copy_76 rfl ?_
          obtain ⟨x100, e101, h102⟩ := ob h99
          refine GX_ldA hC e101 al_88 dX10_copy_77 ?_
          refine GX_aload_n hC dX10_copy_78 rfl ?_
          refine GX_getR hC fkX10_86 ol_62 rfl dX10_copy_79 ?_
          refine GX_iload_n hC dX10_copy_82 rfl ?_
          obtain ⟨x103, e104, h105⟩ := ob h102
          refine GX_ldA hC e104 al_88 dX10_copy_83 ?_
          refine GX_icmp_eq_N hC 90 dX10_copy_84 (by decide) (fun q => ?_) (fun q => ?_)
          · skip
            exact hc27 (cdT q h105)
          · skip
            exact hc29 (cdF q h105)
    refine GX_aload_n hC dX10_copy_31 rfl ?_
    refine GX_getR hC fkX10_77 ol_62 rfl dX10_copy_32 ?_
    refine GX_iload_n hC dX10_copy_35 rfl ?_
    obtain ⟨x106, e107, h108⟩ := ob e18
    refine GX_ldA hC e107 al_85 dX10_copy_36 ?_
    refine GX_if_eq_P hC 49 dX10_copy_37 (by decide) (fun q => ?_) (fun q => ?_)
    · skip
      have h109 := ifP q h108
      exact hc20 (oi h109)
    · skip
      have h110 := ifN q h108
      refine GX_aload_n hC dX10_copy_40 rfl ?_
      refine GX_getR hC fkX10_77 ol_62 rfl dX10_copy_41 ?_
      refine GX_iload_n hC dX10_copy_44 rfl ?_
      obtain ⟨x111, e112, h113⟩ := ob h110
      refine GX_ldA hC e112 al_85 dX10_copy_45 ?_
      refine GX_if_ne_N hC 52 dX10_copy_46 (by decide) (fun q => ?_) (fun q => ?_)
      · skip
        exact hc20 (cdT q h113)
      · skip
        exact hc22 (cdF q h113)
  refine GX_iload_n hC dX10_copy_5 rfl ?_
  refine GX_i2l hC dX10_copy_6 ?_
  refine GX_lconst hC 0 dX10_copy_7 rfl ?_
  refine GX_ldc2 hC 7 kcX10_214 dX10_copy_8 ?_
  obtain ⟨b114, e115, h116⟩ := ob e11
  refine GX_callS_i (st := []) hC (C_M_in e115) okX10_in lkX10_106 rfl (Nat.le_of_ble_eq_true rfl) (Nat.le_of_ble_eq_true rfl) hk rfl (Nat.le_of_ble_eq_true rfl) dX10_copy_11 ?_
  refine GX_ifb_eq hC 29 dX10_copy_14 (by decide) (fun q => ?_) (fun q => ?_)
  · skip
    have h117 := ifT q h116
    refine GX_iload_n hC dX10_copy_17 rfl ?_
    refine GX_i2l hC dX10_copy_18 ?_
    refine GX_lconst hC 0 dX10_copy_19 rfl ?_
    refine GX_ldc2 hC 7 kcX10_214 dX10_copy_20 ?_
    obtain ⟨b118, e119, h120⟩ := ob h117
    refine GX_callS_i (st := []) hC (C_M_in e119) okX10_in lkX10_106 rfl (Nat.le_of_ble_eq_true rfl) (Nat.le_of_ble_eq_true rfl) hk rfl (Nat.le_of_ble_eq_true rfl) dX10_copy_23 ?_
    refine GX_ifb_ne hC 31 dX10_copy_26 (by decide) (fun q => ?_) (fun q => ?_)
    · skip
      exact hc15 (cbnT q h120)
    · skip
      exact hc13 (cbnF q h120)
  · skip
    have h121 := ifF q h116
    exact hc13 (oi h121)
set_option maxRecDepth 100000 in
set_option maxHeartbeats 4000000 in
theorem C_M_feeOf {l : Launch} {d1 : Int32} {m2 : MI} {r0 : Int32}  (hf : M_feeOf d1 m2 = some r0) : Cn l yX10_feeOf cX10_feeOf 3 (some .int) 0 LAY (fun ad => .ref (ad 62) :: [.int d1]) m2 (fun _ => some (.int r0)) m2 := by
  refine Cn.of (fun ad => [some (.ref (ad 62)), some (.int d1), none]) (by decide +kernel) (fun _ => rfl) (fun _ => Nat.le_of_ble_eq_true rfl) (fun Γ hl hC hR hk => ?_)
  subst hl
  replace hC : CX Γ cX10_feeOf RX10 LAY 0 3 := hC
  dsimp only [M_feeOf] at hf
  refine GX_aload_n hC dX10_feeOf_0 rfl ?_
  refine GX_getR hC fkX10_83 ol_62 rfl dX10_feeOf_1 ?_
  refine GX_iload_n hC dX10_feeOf_4 rfl ?_
  obtain ⟨x3, e4, h5⟩ := ob hf
  refine GX_ldA hC e4 al_87 dX10_feeOf_5 ?_
  refine GX_bipush hC 10 dX10_feeOf_6 rfl ?_
  refine GX_irem hC dX10_feeOf_8 (by decide) ?_
  obtain ⟨f6, e7, h8⟩ := ob h5
  refine GX_nm (oi e7) ?_
  refine GX_istore_n hC [some (.ref (gad Γ 62)), some (.int d1), some (.int f6)] dX10_feeOf_9 (by decide) rfl rfl ?_
  refine GX_aload_n hC dX10_feeOf_10 rfl ?_
  refine GX_getR hC fkX10_80 ol_62 rfl dX10_feeOf_11 ?_
  refine GX_iload_n hC dX10_feeOf_14 rfl ?_
  obtain ⟨x9, e10, h11⟩ := ob h8
  refine GX_ldA hC e10 al_86 dX10_feeOf_15 ?_
  by_cases q0 : x9 = 1
  · skip
    have h12 := ifP q0 h11
    refine GX_tableIn hC 1 56 dX10_feeOf_16 q0 (by decide) (by decide) rfl (by decide) ?_
    refine GX_iconst hC 2 dX10_feeOf_56 rfl ?_
    refine GX_iload_n hC dX10_feeOf_57 rfl ?_
    refine GX_iadd hC dX10_feeOf_58 ?_
    exact GX_iretR hC hR dX10_feeOf_59 (oi h12)
  · skip
    have h13 := ifN q0 h11
    by_cases q1 : x9 = 2
    · skip
      have h14 := ifP q1 h13
      refine GX_tableIn hC 2 60 dX10_feeOf_16 q1 (by decide) (by decide) rfl (by decide) ?_
      refine GX_bipush hC 6 dX10_feeOf_60 rfl ?_
      exact GX_iretR hC hR dX10_feeOf_62 (oi h14)
    · skip
      have h15 := ifN q1 h13
      by_cases q2 : x9 = 3
      · skip
        have h16 := ifP q2 h15
        refine GX_tableIn hC 3 63 dX10_feeOf_16 q2 (by decide) (by decide) rfl (by decide) ?_
        refine GX_bipush hC 7 dX10_feeOf_63 rfl ?_
        exact GX_iretR hC hR dX10_feeOf_65 (oi h16)
      · skip
        have h17 := ifN q2 h15
        by_cases q3 : x9 = 4
        · skip
          have h18 := ifP q3 h17
          refine GX_tableIn hC 4 66 dX10_feeOf_16 q3 (by decide) (by decide) rfl (by decide) ?_
          refine GX_iconst hC 4 dX10_feeOf_66 rfl ?_
          refine GX_iconst hC 2 dX10_feeOf_67 rfl ?_
          refine GX_iload_n hC dX10_feeOf_68 rfl ?_
          refine GX_imul hC dX10_feeOf_69 ?_
          refine GX_iadd hC dX10_feeOf_70 ?_
          exact GX_iretR hC hR dX10_feeOf_71 (oi h18)
        · skip
          have h19 := ifN q3 h17
          by_cases q4 : x9 = 5
          · skip
            have h20 := ifP q4 h19
            refine GX_tableIn hC 5 72 dX10_feeOf_16 q4 (by decide) (by decide) rfl (by decide) ?_
            refine GX_bipush hC 9 dX10_feeOf_72 rfl ?_
            exact GX_iretR hC hR dX10_feeOf_74 (oi h20)
          · skip
            have h21 := ifN q4 h19
            by_cases q5 : x9 = 6
            · skip
              have h22 := ifP q5 h21
              refine GX_tableIn hC 6 75 dX10_feeOf_16 q5 (by decide) (by decide) rfl (by decide) ?_
              refine GX_iconst hC 0 dX10_feeOf_75 rfl ?_
              exact GX_iretR hC hR dX10_feeOf_76 (oi h22)
            · skip
              have h23 := ifN q5 h21
              refine GX_tableOut hC 77 dX10_feeOf_16 (by have n0 := sw_ne q0 (z := 1) rfl; have n1 := sw_ne q1 (z := 2) rfl; have n2 := sw_ne q2 (z := 3) rfl; have n3 := sw_ne q3 (z := 4) rfl; have n4 := sw_ne q4 (z := 5) rfl; have n5 := sw_ne q5 (z := 6) rfl; omega) (by decide) ?_
              refine GX_iconst hC 2 dX10_feeOf_77 rfl ?_
              exact GX_iretR hC hR dX10_feeOf_78 (oi h23)
set_option maxRecDepth 100000 in
set_option maxHeartbeats 4000000 in
theorem C_M_fee {l : Launch} {d1 : Int32} {m2 : MI} {r0 : Int32} {mr : MI}  (hf : M_fee d1 m2 = some (r0, mr)) : Cn l yX10_fee cX10_fee 2 (some .int) 2 LAY (fun ad => .ref (ad 62) :: [.int d1]) m2 (fun _ => some (.int r0)) mr := by
  refine Cn.of (fun ad => [some (.ref (ad 62)), some (.int d1)]) (by decide +kernel) (fun _ => rfl) (fun _ => Nat.le_of_ble_eq_true rfl) (fun Γ hl hC hR hk => ?_)
  subst hl
  replace hC : CX Γ cX10_fee RX10 LAY 2 2 := hC
  dsimp only [M_fee] at hf
  refine GX_aload_n hC dX10_fee_0 rfl ?_
  refine GX_iconst hC 0 dX10_fee_1 rfl ?_
  obtain ⟨m3, e4, h5⟩ := ob hf
  refine GX_stF hC e4 fkX10_99 ftX10_10 ol_62 rfl dX10_fee_2 ?_
  obtain ⟨x6, e7, h8⟩ := ob h5
  suffices hJ9 : GX Γ LAY 0 0 [some (.ref (gad Γ 62)), some (.int d1)] [.int x6] m3 26 by
    refine GX_aload_n hC dX10_fee_5 rfl ?_
    refine GX_iload_n hC dX10_fee_6 rfl ?_
    obtain ⟨r10, e11, h12⟩ := ob e7
    refine GX_callV_i (st := []) hC (C_M_wrongMove e11) okX10_wrongMove lkX10_243 ol_62 rfl rfl (Nat.le_of_ble_eq_true rfl) (Nat.le_of_ble_eq_true rfl) hk rfl (Nat.le_of_ble_eq_true rfl) dX10_fee_7 ?_
    refine GX_if_ge_N hC 21 dX10_fee_10 (by decide) (fun q => ?_) (fun q => ?_)
    · skip
      have h13 := ifP q h12
      refine GX_aload_n hC dX10_fee_13 rfl ?_
      refine GX_iload_n hC dX10_fee_14 rfl ?_
      obtain ⟨r14, e15, h16⟩ := ob h13
      refine GX_callV_i (st := []) hC (C_M_wrongMove e15) okX10_wrongMove lkX10_243 ol_62 rfl rfl (Nat.le_of_ble_eq_true rfl) (Nat.le_of_ble_eq_true rfl) hk rfl (Nat.le_of_ble_eq_true rfl) dX10_fee_15 ?_
      refine GX_goto hC 26 dX10_fee_18 (by decide) ?_
      exact GX_nm (oi h16) hJ9
    · skip
      have h17 := ifN q h12
      refine GX_aload_n hC dX10_fee_21 rfl ?_
      refine GX_iload_n hC dX10_fee_22 rfl ?_
      obtain ⟨r18, e19, h20⟩ := ob h17
      refine GX_callV_i (st := []) hC (C_M_feeOf e19) okX10_feeOf lkX10_340 ol_62 rfl rfl (Nat.le_of_ble_eq_true rfl) (Nat.le_of_ble_eq_true rfl) hk rfl (Nat.le_of_ble_eq_true rfl) dX10_fee_23 ?_
      exact GX_nm (oi h20) hJ9
  exact GX_iretW hC hR dX10_fee_26 (oi h8)
set_option maxRecDepth 100000 in
set_option maxHeartbeats 4000000 in
theorem C_M_toss {l : Launch} {d1 : Int32} {m2 : MI} {r0 : Int32} {mr : MI}  (hf : M_toss d1 m2 = some (r0, mr)) : Cn l yX10_toss cX10_toss 3 (some .int) 2 LAY (fun ad => .ref (ad 62) :: [.int d1]) m2 (fun _ => some (.int r0)) mr := by
  refine Cn.of (fun ad => [some (.ref (ad 62)), some (.int d1), none]) (by decide +kernel) (fun _ => rfl) (fun _ => Nat.le_of_ble_eq_true rfl) (fun Γ hl hC hR hk => ?_)
  subst hl
  replace hC : CX Γ cX10_toss RX10 LAY 2 3 := hC
  dsimp only [M_toss] at hf
  refine GX_aload_n hC dX10_toss_0 rfl ?_
  refine GX_iconst hC 0 dX10_toss_1 rfl ?_
  obtain ⟨m3, e4, h5⟩ := ob hf
  refine GX_stF hC e4 fkX10_99 ftX10_10 ol_62 rfl dX10_toss_2 ?_
  refine GX_aload_n hC dX10_toss_5 rfl ?_
  refine GX_iload_n hC dX10_toss_6 rfl ?_
  obtain ⟨r6, e7, h8⟩ := ob h5
  refine GX_callV_i (st := []) hC (C_M_wrongMove e7) okX10_wrongMove lkX10_243 ol_62 rfl rfl (Nat.le_of_ble_eq_true rfl) (Nat.le_of_ble_eq_true rfl) hk rfl (Nat.le_of_ble_eq_true rfl) dX10_toss_7 ?_
  refine GX_if_ge_N hC 19 dX10_toss_10 (by decide) (fun q => ?_) (fun q => ?_)
  · skip
    have h9 := ifP q h8
    refine GX_aload_n hC dX10_toss_13 rfl ?_
    refine GX_iload_n hC dX10_toss_14 rfl ?_
    obtain ⟨r10, e11, h12⟩ := ob h9
    refine GX_callV_i (st := []) hC (C_M_wrongMove e11) okX10_wrongMove lkX10_243 ol_62 rfl rfl (Nat.le_of_ble_eq_true rfl) (Nat.le_of_ble_eq_true rfl) hk rfl (Nat.le_of_ble_eq_true rfl) dX10_toss_15 ?_
    exact GX_iretW hC hR dX10_toss_18 (oi h12)
  · skip
    have h13 := ifN q h8
    refine GX_aload_n hC dX10_toss_19 rfl ?_
    refine GX_getR hC fkX10_83 ol_62 rfl dX10_toss_20 ?_
    refine GX_iload_n hC dX10_toss_23 rfl ?_
    obtain ⟨x14, e15, h16⟩ := ob h13
    refine GX_ldA hC e15 al_87 dX10_toss_24 ?_
    refine GX_bipush hC 10 dX10_toss_25 rfl ?_
    refine GX_irem hC dX10_toss_27 (by decide) ?_
    obtain ⟨f17, e18, h19⟩ := ob h16
    refine GX_nm (oi e18) ?_
    refine GX_istore_n hC [some (.ref (gad Γ 62)), some (.int d1), some (.int f17)] dX10_toss_28 (by decide) rfl rfl ?_
    obtain ⟨c20, e21, h22⟩ := ob h19
    have hc23 : true = c20 → GX Γ LAY 0 0 [some (.ref (gad Γ 62)), some (.int d1), some (.int f17)] [] m3 44 := by
      intro q
      have h24 := ifT q.symm h22
      refine GX_bipush hC (-15) dX10_toss_44 rfl ?_
      exact GX_iretW hC hR dX10_toss_46 (oi h24)
    have hc25 : false = c20 → GX Γ LAY 0 0 [some (.ref (gad Γ 62)), some (.int d1), some (.int f17)] [] m3 47 := by
      intro q
      have h26 := ifF q.symm h22
      obtain ⟨x27, e28, h29⟩ := ob h26
      suffices hJ30 : GX Γ LAY 0 0 [some (.ref (gad Γ 62)), some (.int d1), some (.int f17)] [.int x27] m3 88 by
        refine GX_aload_n hC dX10_toss_47 rfl ?_
        refine GX_getR hC fkX10_80 ol_62 rfl dX10_toss_48 ?_
        refine GX_iload_n hC dX10_toss_51 rfl ?_
        obtain ⟨x31, e32, h33⟩ := ob e28
        refine GX_ldA hC e32 al_86 dX10_toss_52 ?_
        refine GX_iconst hC 3 dX10_toss_53 rfl ?_
        refine GX_icmp_ne_N hC 64 dX10_toss_54 (by decide) (fun q => ?_) (fun q => ?_)
        · skip
          have h34 := ifP q h33
          refine GX_bipush hC 100 dX10_toss_57 rfl ?_
          refine GX_iload_n hC dX10_toss_59 rfl ?_
          refine GX_iadd hC dX10_toss_60 ?_
          refine GX_goto hC 88 dX10_toss_61 (by decide) ?_
          exact GX_nm (oi h34) hJ30
        · skip
          have h35 := ifN q h33
          obtain ⟨x36, e37, h38⟩ := ob h35
          suffices hJ39 : GX Γ LAY 0 0 [some (.ref (gad Γ 62)), some (.int d1), some (.int f17)] [.int x36] m3 88 by
            refine GX_aload_n hC dX10_toss_64 rfl ?_
            refine GX_getR hC fkX10_80 ol_62 rfl dX10_toss_65 ?_
            refine GX_iload_n hC dX10_toss_68 rfl ?_
            obtain ⟨x40, e41, h42⟩ := ob e37
            refine GX_ldA hC e41 al_86 dX10_toss_69 ?_
            refine GX_bipush hC 7 dX10_toss_70 rfl ?_
            refine GX_icmp_ne_N hC 87 dX10_toss_72 (by decide) (fun q => ?_) (fun q => ?_)
            · skip
              have h43 := ifP q h42
              refine GX_sipush hC 200 dX10_toss_75 rfl ?_
              refine GX_aload_n hC dX10_toss_78 rfl ?_
              refine GX_iload_n hC dX10_toss_79 rfl ?_
              obtain ⟨r44, e45, h46⟩ := ob h43
              refine GX_callV_i (st := [.int 200]) hC (C_M_feeOf e45) okX10_feeOf lkX10_340 ol_62 rfl rfl (Nat.le_of_ble_eq_true rfl) (Nat.le_of_ble_eq_true rfl) hk rfl (Nat.le_of_ble_eq_true rfl) dX10_toss_80 ?_
              refine GX_iadd hC dX10_toss_83 ?_
              refine GX_goto hC 88 dX10_toss_84 (by decide) ?_
              exact GX_nm (oi h46) hJ39
            · skip
              have h47 := ifN q h42
              refine GX_iload_n hC dX10_toss_87 rfl ?_
              exact GX_nm (oi h47) hJ39
          exact GX_nm (oi h38) hJ30
      exact GX_iretW hC hR dX10_toss_88 (oi h29)
    refine GX_aload_n hC dX10_toss_29 rfl ?_
    refine GX_getR hC fkX10_80 ol_62 rfl dX10_toss_30 ?_
    refine GX_iload_n hC dX10_toss_33 rfl ?_
    obtain ⟨x48, e49, h50⟩ := ob e21
    refine GX_ldA hC e49 al_86 dX10_toss_34 ?_
    refine GX_bipush hC 6 dX10_toss_35 rfl ?_
    refine GX_icmp_eq_P hC 44 dX10_toss_37 (by decide) (fun q => ?_) (fun q => ?_)
    · skip
      have h51 := ifP q h50
      exact hc23 (oi h51)
    · skip
      have h52 := ifN q h50
      refine GX_iload_n hC dX10_toss_40 rfl ?_
      refine GX_if_ne_N hC 47 dX10_toss_41 (by decide) (fun q => ?_) (fun q => ?_)
      · skip
        exact hc23 (cdT q h52)
      · skip
        exact hc25 (cdF q h52)
