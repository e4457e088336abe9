set_option maxRecDepth 100000 in
set_option maxHeartbeats 4000000 in
theorem C_Changes_codeOf {l : Launch} {land1 : Nat} {m2 : MI} {r0 : Int32} (hp_land1 : isLand land1) (hf : Changes_codeOf land1 m2 = some r0) : Cn l yX0_codeOf cX0_codeOf 4 (some .int) 2 LAY (fun ad => [.ref (ad land1)]) m2 (fun _ => some (.int r0)) m2 := by
  refine Cn.of (fun ad => [some (.ref (ad land1)), none, none, none]) (by decide +kernel) (fun _ => rfl) (fun _ => Nat.le_of_ble_eq_true rfl) (fun Γ hl hC hR hk => ?_)
  subst hl
  replace hC : CX Γ cX0_codeOf RX0 LAY 2 4 := hC
  dsimp only [Changes_codeOf] at hf
  refine GX_iconst hC 0 dX0_codeOf_0 rfl ?_
  refine GX_istore_n hC [some (.ref (gad Γ land1)), some (.int 0), none, none] dX0_codeOf_1 (by decide) rfl rfl ?_
  refine GX_iconst hC 0 dX0_codeOf_2 rfl ?_
  refine GX_istore_n hC [some (.ref (gad Γ land1)), some (.int 0), some (.int 0), none] dX0_codeOf_3 (by decide) rfl rfl ?_
  obtain ⟨o3, e4, h5⟩ := ob hf
  suffices hJ6 : ∀ (code9 : Int32), code9 = o3 → GX Γ LAY 0 0 [some (.ref (gad Γ land1)), some (.int code9), none, none] [] m2 42 by
    refine lp_walk (P := fun s => GX Γ LAY 0 0 [some (.ref (gad Γ land1)), some (.int s.1), some (.int s.2), none] [] m2 4) (fun s x hx6 hI6 hO6 => ?_) _ _ e4
    obtain ⟨code7, f8⟩ := s
    show GX Γ LAY 0 0 [some (.ref (gad Γ land1)), some (.int code7), some (.int f8), none] [] m2 4
    dsimp only [Changes_codeOf_s1] at hx6
    refine GX_iload_n hC dX0_codeOf_4 rfl ?_
    refine GX_aload_n hC dX0_codeOf_5 rfl ?_
    refine GX_getI hC fkX0_60 (olLand hp_land1) rfl dX0_codeOf_6 ?_
    refine GX_icmp_ge_N hC 42 dX0_codeOf_9 (by decide) (fun q => ?_) (fun q => ?_)
    · skip
      have h10 := ifP q hx6
      refine GX_aload_n hC dX0_codeOf_12 rfl ?_
      refine GX_iload_n hC dX0_codeOf_13 rfl ?_
      obtain ⟨r11, e12, h13⟩ := ob h10
      refine GX_callV_i (st := []) hC (C_Land_ownerOf hp_land1 e12) okX2_ownerOf lkX0_71 (olLand hp_land1) rfl rfl (Nat.le_of_ble_eq_true rfl) (Nat.le_of_ble_eq_true rfl) hk rfl (Nat.le_of_ble_eq_true rfl) dX0_codeOf_14 ?_
      refine GX_istore_n hC [some (.ref (gad Γ land1)), some (.int code7), some (.int f8), some (.int r11)] dX0_codeOf_17 (by decide) rfl rfl ?_
      refine GX_iload_n hC dX0_codeOf_18 rfl ?_
      obtain ⟨x14, e15, h16⟩ := ob h13
      suffices hJ17 : GX Γ LAY 0 0 [some (.ref (gad Γ land1)), some (.int code7), some (.int f8), some (.int r11)] [.int x14, .int code7] m2 30 by
        refine GX_iload_n hC dX0_codeOf_19 rfl ?_
        refine GX_bipush hC 9 dX0_codeOf_20 rfl ?_
        refine GX_icmp_ne_N hC 29 dX0_codeOf_22 (by decide) (fun q => ?_) (fun q => ?_)
        · skip
          have h18 := ifP q e15
          refine GX_iconst hC 3 dX0_codeOf_25 rfl ?_
          refine GX_goto hC 30 dX0_codeOf_26 (by decide) ?_
          exact GX_nm (oi h18) hJ17
        · skip
          have h19 := ifN q e15
          refine GX_iload_n hC dX0_codeOf_29 rfl ?_
          exact GX_nm (oi h19) hJ17
      refine GX_iconst hC 2 dX0_codeOf_30 rfl ?_
      refine GX_iload_n hC dX0_codeOf_31 rfl ?_
      refine GX_imul hC dX0_codeOf_32 ?_
      refine GX_ishl hC dX0_codeOf_33 ?_
      refine GX_ior hC dX0_codeOf_34 ?_
      obtain ⟨code20, e21, h22⟩ := ob h16
      refine GX_nm (oi e21) ?_
      refine GX_istore_n hC [some (.ref (gad Γ land1)), some (.int code20), some (.int f8), some (.int r11)] dX0_codeOf_35 (by decide) rfl rfl ?_
      obtain ⟨i23, e24, h25⟩ := ob h22
      refine GX_iinc hC i23 [some (.ref (gad Γ land1)), some (.int code20), some (.int i23), some (.int r11)] dX0_codeOf_36 rfl (oi e24) (by decide) rfl rfl ?_
      refine GX_goto hC 4 dX0_codeOf_39 (by decide) ?_
      exact GX.le (hI6 _ (oi h25).symm) ⟨rfl, ⟨rfl, ⟨rfl, trivial⟩⟩⟩
    · skip
      have h26 := ifN q hx6
      exact GX.le (hJ6 _ (hO6 _ (oi h26).symm)) ⟨rfl, ⟨rfl, trivial⟩⟩
  intro code9 q27
  subst q27
  refine GX_iload_n hC dX0_codeOf_42 rfl ?_
  exact GX_iretR hC hR dX0_codeOf_43 (oi h5)
set_option maxRecDepth 100000 in
set_option maxHeartbeats 4000000 in
theorem C_Changes_isLawful {l : Launch} {land1 : Nat} {code2 : Int32} {m3 : MI} {r0 : Bool} (hp_land1 : isLand land1) (hf : Changes_isLawful land1 code2 m3 = some r0) : Cn l yX0_isLawful cX0_isLawful 6 (some .boolean) 2 LAY (fun ad => .ref (ad 30) :: [.ref (ad land1), .int code2]) m3 (fun _ => some (.int (bI r0))) m3 := by
  refine Cn.of (fun ad => [some (.ref (ad 30)), some (.ref (ad land1)), some (.int code2), none, none, none]) (by decide +kernel) (fun _ => rfl) (fun _ => Nat.le_of_ble_eq_true rfl) (fun Γ hl hC hR hk => ?_)
  subst hl
  replace hC : CX Γ cX0_isLawful RX0 LAY 2 6 := hC
  dsimp only [Changes_isLawful] at hf
  refine GX_iconst hC 0 dX0_isLawful_0 rfl ?_
  refine GX_istore_n hC [some (.ref (gad Γ 30)), some (.ref (gad Γ land1)), some (.int code2), some (.int 0), none, none] dX0_isLawful_1 (by decide) rfl rfl ?_
  obtain ⟨o4, e5, h6⟩ := ob hf
  have hR7 : ∀ res : Bool, Sum.inr res = o4 → res = r0 := by
    intro res q
    subst q
    have h6 := seR h6
    exact (oi h6)
  suffices hJ7 : Sum.inl () = o4 → GX Γ LAY 0 0 [some (.ref (gad Γ 30)), some (.ref (gad Γ land1)), some (.int code2), none, none, none] [] m3 89 by
    refine lp_walk (P := fun s => GX Γ LAY 0 0 [some (.ref (gad Γ 30)), some (.ref (gad Γ land1)), some (.int code2), some (.int s), none, none] [] m3 2) (fun a8 x hx7 hI7 hO7 => ?_) _ _ e5
    show GX Γ LAY 0 0 [some (.ref (gad Γ 30)), some (.ref (gad Γ land1)), some (.int code2), some (.int a8), none, none] [] m3 2
    dsimp only [Changes_isLawful_s1] at hx7
    refine GX_iload_n hC dX0_isLawful_2 rfl ?_
    refine GX_aload_n hC dX0_isLawful_3 rfl ?_
    refine GX_getR hC fkX0_22 ol_30 rfl dX0_isLawful_4 ?_
    refine GX_alen hC 6 al_33 (by decide) rfl dX0_isLawful_7 ?_
    refine GX_icmp_ge_N hC 89 dX0_isLawful_8 (by decide) (fun q => ?_) (fun q => ?_)
    · skip
      have h9 := ifP q hx7
      refine GX_iload_n hC dX0_isLawful_11 rfl ?_
      refine GX_iconst hC 1 dX0_isLawful_12 rfl ?_
      refine GX_iadd hC dX0_isLawful_13 ?_
      obtain ⟨b10, e11, h12⟩ := ob h9
      refine GX_nm (oi e11) ?_
      refine GX_istore hC [some (.ref (gad Γ 30)), some (.ref (gad Γ land1)), some (.int code2), some (.int a8), some (.int b10), none] dX0_isLawful_14 (by decide) rfl rfl ?_
      obtain ⟨o13, e14, h15⟩ := ob h12
      have hR16 : ∀ res : Bool, Sum.inr res = o13 → res = r0 := by
        intro res q
        subst q
        have h15 := seR h15
        exact (hR7 _ (hO7 _ (oi h15).symm))
      suffices hJ16 : Sum.inl () = o13 → GX Γ LAY 0 0 [some (.ref (gad Γ 30)), some (.ref (gad Γ land1)), some (.int code2), some (.int a8), none, none] [] m3 83 by
        refine lp_walk (P := fun s => GX Γ LAY 0 0 [some (.ref (gad Γ 30)), some (.ref (gad Γ land1)), some (.int code2), some (.int a8), some (.int s), none] [] m3 16) (fun b17 x hx16 hI16 hO16 => ?_) _ _ e14
        show GX Γ LAY 0 0 [some (.ref (gad Γ 30)), some (.ref (gad Γ land1)), some (.int code2), some (.int a8), some (.int b17), none] [] m3 16
        dsimp only [Changes_isLawful_s2] at hx16
        refine GX_iload hC dX0_isLawful_16 rfl ?_
        refine GX_aload_n hC dX0_isLawful_18 rfl ?_
        refine GX_getR hC fkX0_22 ol_30 rfl dX0_isLawful_19 ?_
        refine GX_alen hC 6 al_33 (by decide) rfl dX0_isLawful_22 ?_
        refine GX_icmp_ge_N hC 83 dX0_isLawful_23 (by decide) (fun q => ?_) (fun q => ?_)
        · skip
          have h18 := ifP q hx16
          obtain ⟨c19, e20, h21⟩ := ob h18
          suffices hJ22 : GX Γ LAY 0 0 [some (.ref (gad Γ 30)), some (.ref (gad Γ land1)), some (.int code2), some (.int a8), some (.int b17), none] [.int (bI c19)] m3 46 by
            have hc23 : true = c19 → GX Γ LAY 0 0 [some (.ref (gad Γ 30)), some (.ref (gad Γ land1)), some (.int code2), some (.int a8), some (.int b17), none] [] m3 41 := by
              intro q
              subst q
              refine GX_iconst hC (bI true) dX0_isLawful_41 rfl ?_
              refine GX_goto hC 46 dX0_isLawful_42 (by decide) ?_
              exact hJ22
            have hc24 : false = c19 → GX Γ LAY 0 0 [some (.ref (gad Γ 30)), some (.ref (gad Γ land1)), some (.int code2), some (.int a8), some (.int b17), none] [] m3 45 := by
              intro q
              subst q
              refine GX_iconst hC (bI false) dX0_isLawful_45 rfl ?_
              exact hJ22
            refine GX_aload_n hC dX0_isLawful_26 rfl ?_
            refine GX_getR hC fkX0_22 ol_30 rfl dX0_isLawful_27 ?_
            refine GX_iload_n hC dX0_isLawful_30 rfl ?_
            obtain ⟨x25, e26, h27⟩ := ob e20
            refine GX_ldA hC e26 al_33 dX0_isLawful_31 ?_
            refine GX_iload hC dX0_isLawful_32 rfl ?_
            refine GX_ishr hC dX0_isLawful_34 ?_
            refine GX_iconst hC 1 dX0_isLawful_35 rfl ?_
            refine GX_iand hC dX0_isLawful_36 ?_
            refine GX_iconst hC 1 dX0_isLawful_37 rfl ?_
            refine GX_icmp_ne_N hC 45 dX0_isLawful_38 (by decide) (fun q => ?_) (fun q => ?_)
            · skip
              exact hc23 (cdT q h27)
            · skip
              exact hc24 (cdF q h27)
          refine GX_istore hC [some (.ref (gad Γ 30)), some (.ref (gad Γ land1)), some (.int code2), some (.int a8), some (.int b17), some (.int (bI c19))] dX0_isLawful_46 (by decide) rfl rfl ?_
          obtain ⟨c28, e29, h30⟩ := ob h21
          have hc31 : true = c28 → GX Γ LAY 0 0 [some (.ref (gad Γ 30)), some (.ref (gad Γ land1)), some (.int code2), some (.int a8), some (.int b17), some (.int (bI c19))] [] m3 75 := by
            intro q
            have h32 := ifT q.symm h30
            refine GX_iconst hC (bI false) dX0_isLawful_75 rfl ?_
            exact GX_zretR hC false hR dX0_isLawful_76 (hR16 _ (hO16 _ (oi h32).symm))
          have hc33 : false = c28 → GX Γ LAY 0 0 [some (.ref (gad Γ 30)), some (.ref (gad Γ land1)), some (.int code2), some (.int a8), some (.int b17), some (.int (bI c19))] [] m3 77 := by
            intro q
            have h34 := ifF q.symm h30
            obtain ⟨i35, e36, h37⟩ := ob h34
            refine GX_iinc hC i35 [some (.ref (gad Γ 30)), some (.ref (gad Γ land1)), some (.int code2), some (.int a8), some (.int i35), some (.int (bI c19))] dX0_isLawful_77 rfl (oi e36) (by decide) rfl rfl ?_
            refine GX_goto hC 16 dX0_isLawful_80 (by decide) ?_
            exact GX.le (hI16 _ (oi h37).symm) ⟨rfl, ⟨rfl, ⟨rfl, ⟨rfl, ⟨rfl, trivial⟩⟩⟩⟩⟩
          refine GX_iload hC dX0_isLawful_48 rfl ?_
          refine GX_ifb_eq hC 77 dX0_isLawful_50 (by decide) (fun q => ?_) (fun q => ?_)
          · skip
            have h38 := ifT q e29
            refine GX_aload_n hC dX0_isLawful_53 rfl ?_
            refine GX_iload_n hC dX0_isLawful_54 rfl ?_
            refine GX_iconst hC 2 dX0_isLawful_55 rfl ?_
            refine GX_iload_n hC dX0_isLawful_56 rfl ?_
            refine GX_imul hC dX0_isLawful_57 ?_
            refine GX_ishr hC dX0_isLawful_58 ?_
            refine GX_iconst hC 3 dX0_isLawful_59 rfl ?_
            refine GX_iand hC dX0_isLawful_60 ?_
            refine GX_iload_n hC dX0_isLawful_61 rfl ?_
            refine GX_iconst hC 2 dX0_isLawful_62 rfl ?_
            refine GX_iload hC dX0_isLawful_63 rfl ?_
            refine GX_imul hC dX0_isLawful_65 ?_
            refine GX_ishr hC dX0_isLawful_66 ?_
            refine GX_iconst hC 3 dX0_isLawful_67 rfl ?_
            refine GX_iand hC dX0_isLawful_68 ?_
            obtain ⟨b39, e40, h41⟩ := ob h38
            refine GX_callV_i (st := []) hC (C_Land_asOne hp_land1 e40) okX2_asOne lkX0_67 (olLand hp_land1) rfl rfl (Nat.le_of_ble_eq_true rfl) (Nat.le_of_ble_eq_true rfl) hk rfl (Nat.le_of_ble_eq_true rfl) dX0_isLawful_69 ?_
            refine GX_ifb_eq hC 77 dX0_isLawful_72 (by decide) (fun q => ?_) (fun q => ?_)
            · skip
              exact hc31 (cbT q h41)
            · skip
              exact hc33 (cbF q h41)
          · skip
            have h42 := ifF q e29
            exact hc33 (oi h42)
        · skip
          have h43 := ifN q hx16
          exact GX.le (hJ16 (hO16 _ (oi h43).symm)) ⟨rfl, ⟨rfl, ⟨rfl, ⟨rfl, trivial⟩⟩⟩⟩
      intro q44
      subst q44
      have h15 := seL h15
      obtain ⟨i45, e46, h47⟩ := ob h15
      refine GX_iinc hC i45 [some (.ref (gad Γ 30)), some (.ref (gad Γ land1)), some (.int code2), some (.int i45), none, none] dX0_isLawful_83 rfl (oi e46) (by decide) rfl rfl ?_
      refine GX_goto hC 2 dX0_isLawful_86 (by decide) ?_
      exact hI7 _ (oi h47).symm
    · skip
      have h49 := ifN q hx7
      exact GX.le (hJ7 (hO7 _ (oi h49).symm)) ⟨rfl, ⟨rfl, ⟨rfl, trivial⟩⟩⟩
  intro q50
  subst q50
  have h6 := seL h6
  refine GX_iconst hC (bI true) dX0_isLawful_89 rfl ?_
  exact GX_zretR hC true hR dX0_isLawful_90 (oi h6)
set_option maxRecDepth 100000 in
set_option maxHeartbeats 4000000 in
theorem C_Changes_isSeen {l : Launch} {code1 : Int32} {m2 : MI} {r0 : Bool}  (hf : Changes_isSeen code1 m2 = some r0) : Cn l yX0_isSeen cX0_isSeen 2 (some .boolean) 0 LAY (fun ad => .ref (ad 30) :: [.int code1]) m2 (fun _ => some (.int (bI r0))) m2 := by
  refine Cn.of (fun ad => [some (.ref (ad 30)), some (.int code1)]) (by decide +kernel) (fun _ => rfl) (fun _ => Nat.le_of_ble_eq_true rfl) (fun Γ hl hC hR hk => ?_)
  subst hl
  replace hC : CX Γ cX0_isSeen RX0 LAY 0 2 := hC
  dsimp only [Changes_isSeen] at hf
  obtain ⟨c3, e4, h5⟩ := ob hf
  suffices hJ6 : GX Γ LAY 0 0 [some (.ref (gad Γ 30)), some (.int code1)] [.int (bI c3)] m2 36 by
    have hc7 : true = c3 → GX Γ LAY 0 0 [some (.ref (gad Γ 30)), some (.int code1)] [] m2 31 := by
      intro q
      subst q
      refine GX_iconst hC (bI true) dX0_isSeen_31 rfl ?_
      refine GX_goto hC 36 dX0_isSeen_32 (by decide) ?_
      exact hJ6
    have hc8 : false = c3 → GX Γ LAY 0 0 [some (.ref (gad Γ 30)), some (.int code1)] [] m2 35 := by
      intro q
      subst q
      refine GX_iconst hC (bI false) dX0_isSeen_35 rfl ?_
      exact hJ6
    refine GX_iload_n hC dX0_isSeen_0 rfl ?_
    refine GX_if_lt_N hC 35 dX0_isSeen_1 (by decide) (fun q => ?_) (fun q => ?_)
    · skip
      have h9 := ifP q e4
      refine GX_iload_n hC dX0_isSeen_4 rfl ?_
      refine GX_sipush hC 4096 dX0_isSeen_5 rfl ?_
      refine GX_icmp_ge_N hC 35 dX0_isSeen_8 (by decide) (fun q => ?_) (fun q => ?_)
      · skip
        have h10 := ifP q h9
        refine GX_aload_n hC dX0_isSeen_11 rfl ?_
        refine GX_getR hC fkX0_11 ol_30 rfl dX0_isSeen_12 ?_
        refine GX_iload_n hC dX0_isSeen_15 rfl ?_
        refine GX_bipush hC 32 dX0_isSeen_16 rfl ?_
        refine GX_idiv hC dX0_isSeen_18 (by decide) ?_
        obtain ⟨x11, e12, h13⟩ := ob h10
        refine GX_ldA hC e12 al_31 dX0_isSeen_19 ?_
        refine GX_iload_n hC dX0_isSeen_20 rfl ?_
        refine GX_bipush hC 32 dX0_isSeen_21 rfl ?_
        refine GX_irem hC dX0_isSeen_23 (by decide) ?_
        refine GX_ishr hC dX0_isSeen_24 ?_
        refine GX_iconst hC 1 dX0_isSeen_25 rfl ?_
        refine GX_iand hC dX0_isSeen_26 ?_
        refine GX_iconst hC 1 dX0_isSeen_27 rfl ?_
        refine GX_icmp_ne_N hC 35 dX0_isSeen_28 (by decide) (fun q => ?_) (fun q => ?_)
        · skip
          exact hc7 (cdT q h13)
        · skip
          exact hc8 (cdF q h13)
      · skip
        have h14 := ifN q h9
        exact hc8 (oi h14)
    · skip
      have h15 := ifN q e4
      exact hc8 (oi h15)
  exact GX_zretR hC c3 hR dX0_isSeen_36 (oi h5)
set_option maxRecDepth 100000 in
set_option maxHeartbeats 4000000 in
theorem C_Changes_markSeen {l : Launch} {code1 : Int32} {m2 : MI} {mr : MI}  (hf : Changes_markSeen code1 m2 = some mr) : Cn l yX0_markSeen cX0_markSeen 2 none 0 LAY (fun ad => .ref (ad 30) :: [.int code1]) m2 (fun _ => none) mr := by
  refine Cn.of (fun ad => [some (.ref (ad 30)), some (.int code1)]) (by decide +kernel) (fun _ => rfl) (fun _ => Nat.le_of_ble_eq_true rfl) (fun Γ hl hC hR hk => ?_)
  subst hl
  replace hC : CX Γ cX0_markSeen RX0 LAY 0 2 := hC
  dsimp only [Changes_markSeen] at hf
  obtain ⟨o3, e4, h5⟩ := ob hf
  suffices hJ7 : ∀ (m6 : MI), m6 = o3 → GX Γ LAY 0 0 [some (.ref (gad Γ 30)), some (.int code1)] [] m6 29 by
    obtain ⟨c8, e9, h10⟩ := ob e4
    have hc11 : true = c8 → GX Γ LAY 0 0 [some (.ref (gad Γ 30)), some (.int code1)] [] m2 11 := by
      intro q
      have h12 := ifT q.symm h10
      refine GX_aload_n hC dX0_markSeen_11 rfl ?_
      refine GX_getR hC fkX0_11 ol_30 rfl dX0_markSeen_12 ?_
      refine GX_iload_n hC dX0_markSeen_15 rfl ?_
      refine GX_bipush hC 32 dX0_markSeen_16 rfl ?_
      refine GX_idiv hC dX0_markSeen_18 (by decide) ?_
      refine GX_dup2 hC dX0_markSeen_19 rfl rfl ?_
      obtain ⟨x13, e14, h15⟩ := ob h12
      refine GX_ldA hC e14 al_31 dX0_markSeen_20 ?_
      refine GX_iconst hC 1 dX0_markSeen_21 rfl ?_
      refine GX_iload_n hC dX0_markSeen_22 rfl ?_
      refine GX_bipush hC 32 dX0_markSeen_23 rfl ?_
      refine GX_irem hC dX0_markSeen_25 (by decide) ?_
      refine GX_ishl hC dX0_markSeen_26 ?_
      refine GX_ior hC dX0_markSeen_27 ?_
      obtain ⟨m16, e17, h18⟩ := ob h15
      refine GX_stA hC e17 al_31 dX0_markSeen_28 ?_
      exact (hJ7 _ (oi h18))
    have hc19 : false = c8 → GX Γ LAY 0 0 [some (.ref (gad Γ 30)), some (.int code1)] [] m2 29 := by
      intro q
      have h20 := ifF q.symm h10
      exact (hJ7 _ (oi h20))
    refine GX_iload_n hC dX0_markSeen_0 rfl ?_
    refine GX_if_lt_N hC 29 dX0_markSeen_1 (by decide) (fun q => ?_) (fun q => ?_)
    · skip
      have h21 := ifP q e9
      refine GX_iload_n hC dX0_markSeen_4 rfl ?_
      refine GX_sipush hC 4096 dX0_markSeen_5 rfl ?_
      refine GX_icmp_ge_N hC 29 dX0_markSeen_8 (by decide) (fun q => ?_) (fun q => ?_)
      · skip
        exact hc11 (cdT q h21)
      · skip
        exact hc19 (cdF q h21)
    · skip
      have h22 := ifN q e9
      exact hc19 (oi h22)
  intro m6 q23
  subst q23
  exact GX_vretW hC hR dX0_markSeen_29 (oi h5)
set_option maxRecDepth 100000 in
set_option maxHeartbeats 4000000 in
theorem C_Changes_reach {l : Launch} {code1 : Int32} {m2 : MI} {mr : MI}  (hf : Changes_reach code1 m2 = some mr) : Cn l yX0_reach cX0_reach 2 none 0 LAY (fun ad => .ref (ad 30) :: [.int code1]) m2 (fun _ => none) mr := by
  refine Cn.of (fun ad => [some (.ref (ad 30)), some (.int code1)]) (by decide +kernel) (fun _ => rfl) (fun _ => Nat.le_of_ble_eq_true rfl) (fun Γ hl hC hR hk => ?_)
  subst hl
  replace hC : CX Γ cX0_reach RX0 LAY 0 2 := hC
  dsimp only [Changes_reach] at hf
  obtain ⟨o3, e4, h5⟩ := ob hf
  suffices hJ7 : ∀ (m6 : MI), m6 = o3 → GX Γ LAY 0 0 [some (.ref (gad Γ 30)), some (.int code1)] [] m6 39 by
    obtain ⟨c8, e9, h10⟩ := ob e4
    have hc11 : true = c8 → GX Γ LAY 0 0 [some (.ref (gad Γ 30)), some (.int code1)] [] m2 19 := by
      intro q
      have h12 := ifT q.symm h10
      refine GX_aload_n hC dX0_reach_19 rfl ?_
      refine GX_getR hC fkX0_15 ol_30 rfl dX0_reach_20 ?_
      refine GX_aload_n hC dX0_reach_23 rfl ?_
      refine GX_getI hC fkX0_18 ol_30 rfl dX0_reach_24 ?_
      refine GX_iload_n hC dX0_reach_27 rfl ?_
      obtain ⟨m13, e14, h15⟩ := ob h12
      refine GX_stA hC e14 al_32 dX0_reach_28 ?_
      refine GX_aload_n hC dX0_reach_29 rfl ?_
      refine GX_dup hC dX0_reach_30 rfl ?_
      refine GX_getI hC fkX0_18 ol_30 rfl dX0_reach_31 ?_
      refine GX_iconst hC 1 dX0_reach_34 rfl ?_
      refine GX_iadd hC dX0_reach_35 ?_
      obtain ⟨m16, e17, h18⟩ := ob h15
      refine GX_stF hC e17 fkX0_18 ftX0_2 ol_30 rfl dX0_reach_36 ?_
      exact (hJ7 _ (oi h18))
    have hc19 : false = c8 → GX Γ LAY 0 0 [some (.ref (gad Γ 30)), some (.int code1)] [] m2 39 := by
      intro q
      have h20 := ifF q.symm h10
      exact (hJ7 _ (oi h20))
    refine GX_aload_n hC dX0_reach_0 rfl ?_
    refine GX_getI hC fkX0_18 ol_30 rfl dX0_reach_1 ?_
    refine GX_if_lt_N hC 39 dX0_reach_4 (by decide) (fun q => ?_) (fun q => ?_)
    · skip
      have h21 := ifP q e9
      refine GX_aload_n hC dX0_reach_7 rfl ?_
      refine GX_getI hC fkX0_18 ol_30 rfl dX0_reach_8 ?_
      refine GX_aload_n hC dX0_reach_11 rfl ?_
      refine GX_getR hC fkX0_15 ol_30 rfl dX0_reach_12 ?_
      refine GX_alen hC 729 al_32 (by decide) rfl dX0_reach_15 ?_
      refine GX_icmp_ge_N hC 39 dX0_reach_16 (by decide) (fun q => ?_) (fun q => ?_)
      · skip
        exact hc11 (cdT q h21)
      · skip
        exact hc19 (cdF q h21)
    · skip
      have h22 := ifN q e9
      exact hc19 (oi h22)
  intro m6 q23
  subst q23
  exact GX_vretW hC hR dX0_reach_39 (oi h5)
set_option maxRecDepth 100000 in
set_option maxHeartbeats 4000000 in
theorem C_Changes_look {l : Launch} {land1 : Nat} {code2 : Int32} {m3 : MI} {mr : MI} (hp_land1 : isLand land1) (hf : Changes_look land1 code2 m3 = some mr) : Cn l yX0_look cX0_look 3 none 3 LAY (fun ad => .ref (ad 30) :: [.ref (ad land1), .int code2]) m3 (fun _ => none) mr := by
  refine Cn.of (fun ad => [some (.ref (ad 30)), some (.ref (ad land1)), some (.int code2)]) (by decide +kernel) (fun _ => rfl) (fun _ => Nat.le_of_ble_eq_true rfl) (fun Γ hl hC hR hk => ?_)
  subst hl
  replace hC : CX Γ cX0_look RX0 LAY 3 3 := hC
  dsimp only [Changes_look] at hf
  obtain ⟨o4, e5, h6⟩ := ob hf
  suffices hJ8 : ∀ (m7 : MI), m7 = o4 → GX Γ LAY 0 0 [some (.ref (gad Γ 30)), some (.ref (gad Γ land1)), some (.int code2)] [] m7 27 by
    refine GX_aload_n hC dX0_look_0 rfl ?_
    refine GX_iload_n hC dX0_look_1 rfl ?_
    obtain ⟨b9, e10, h11⟩ := ob e5
    refine GX_callV_i (st := []) hC (C_Changes_isSeen e10) okX0_isSeen lkX0_56 ol_30 rfl rfl (Nat.le_of_ble_eq_true rfl) (Nat.le_of_ble_eq_true rfl) hk rfl (Nat.le_of_ble_eq_true rfl) dX0_look_2 ?_
    refine GX_ifb_ne hC 27 dX0_look_5 (by decide) (fun q => ?_) (fun q => ?_)
    · skip
      have h12 := ifT q h11
      exact (hJ8 _ (oi h12))
    · skip
      have h13 := ifF q h11
      refine GX_aload_n hC dX0_look_8 rfl ?_
      refine GX_iload_n hC dX0_look_9 rfl ?_
      obtain ⟨m14, e15, h16⟩ := ob h13
      refine GX_callV_v (st := []) hC (C_Changes_markSeen e15) okX0_markSeen lkX0_45 ol_30 rfl rfl (Nat.le_of_ble_eq_true rfl) (Nat.le_of_ble_eq_true rfl) hk rfl (Nat.le_of_ble_eq_true rfl) dX0_look_10 ?_
      obtain ⟨o17, e18, h19⟩ := ob h16
      suffices hJ21 : ∀ (m20 : MI), m20 = o17 → GX Γ LAY 0 0 [some (.ref (gad Γ 30)), some (.ref (gad Γ land1)), some (.int code2)] [] m20 27 by
        refine GX_aload_n hC dX0_look_13 rfl ?_
        refine GX_aload_n hC dX0_look_14 rfl ?_
        refine GX_iload_n hC dX0_look_15 rfl ?_
        obtain ⟨b22, e23, h24⟩ := ob e18
        refine GX_callV_i (st := []) hC (C_Changes_isLawful hp_land1 e23) okX0_isLawful lkX0_35 ol_30 rfl rfl (Nat.le_of_ble_eq_true rfl) (Nat.le_of_ble_eq_true rfl) hk rfl (Nat.le_of_ble_eq_true rfl) dX0_look_16 ?_
        refine GX_ifb_eq hC 27 dX0_look_19 (by decide) (fun q => ?_) (fun q => ?_)
        · skip
          have h25 := ifT q h24
          refine GX_aload_n hC dX0_look_22 rfl ?_
          refine GX_iload_n hC dX0_look_23 rfl ?_
          obtain ⟨m26, e27, h28⟩ := ob h25
          refine GX_callV_v (st := []) hC (C_Changes_reach e27) okX0_reach lkX0_49 ol_30 rfl rfl (Nat.le_of_ble_eq_true rfl) (Nat.le_of_ble_eq_true rfl) hk rfl (Nat.le_of_ble_eq_true rfl) dX0_look_24 ?_
          exact (hJ21 _ (oi h28))
        · skip
          have h29 := ifF q h24
          exact (hJ21 _ (oi h29))
      intro m20 q30
      subst q30
      exact (hJ8 _ (oi h19))
  intro m7 q31
  subst q31
  exact GX_vretW hC hR dX0_look_27 (oi h6)
set_option maxRecDepth 100000 in
set_option maxHeartbeats 4000000 in
theorem C_Changes_widenFrom {l : Launch} {land1 : Nat} {code2 : Int32} {end3 : Int32} {m4 : MI} {mr : MI} (hp_land1 : isLand land1) (hf : Changes_widenFrom land1 code2 end3 m4 = some mr) : Cn l yX0_widenFrom cX0_widenFrom 6 none 4 LAY (fun ad => .ref (ad 30) :: [.ref (ad land1), .int code2, .int end3]) m4 (fun _ => none) mr := by
  refine Cn.of (fun ad => [some (.ref (ad 30)), some (.ref (ad land1)), some (.int code2), some (.int end3), none, none]) (by decide +kernel) (fun _ => rfl) (fun _ => Nat.le_of_ble_eq_true rfl) (fun Γ hl hC hR hk => ?_)
  subst hl
  replace hC : CX Γ cX0_widenFrom RX0 LAY 4 6 := hC
  dsimp only [Changes_widenFrom] at hf
  refine GX_iconst hC 0 dX0_widenFrom_0 rfl ?_
  refine GX_istore hC [some (.ref (gad Γ 30)), some (.ref (gad Γ land1)), some (.int code2), some (.int end3), some (.int 0), none] dX0_widenFrom_1 (by decide) rfl rfl ?_
  obtain ⟨o5, e6, h7⟩ := ob hf
  suffices hJ8 : ∀ (m11 : MI), m11 = o5 → GX Γ LAY 0 0 [some (.ref (gad Γ 30)), some (.ref (gad Γ land1)), some (.int code2), some (.int end3), none, none] [] m11 51 by
    refine lp_walk (P := fun s => GX Γ LAY 0 0 [some (.ref (gad Γ 30)), some (.ref (gad Γ land1)), some (.int code2), some (.int end3), some (.int s.1), none] [] s.2 3) (fun s x hx8 hI8 hO8 => ?_) _ _ e6
    obtain ⟨f9, m10⟩ := s
    show GX Γ LAY 0 0 [some (.ref (gad Γ 30)), some (.ref (gad Γ land1)), some (.int code2), some (.int end3), some (.int f9), none] [] m10 3
    dsimp only [Changes_widenFrom_s1] at hx8
    refine GX_iload hC dX0_widenFrom_3 rfl ?_
    refine GX_aload_n hC dX0_widenFrom_5 rfl ?_
    refine GX_getI hC fkX0_60 (olLand hp_land1) rfl dX0_widenFrom_6 ?_
    refine GX_icmp_ge_N hC 51 dX0_widenFrom_9 (by decide) (fun q => ?_) (fun q => ?_)
    · skip
      have h12 := ifP q hx8
      refine GX_iconst hC 3 dX0_widenFrom_12 rfl ?_
      refine GX_iconst hC 2 dX0_widenFrom_13 rfl ?_
      refine GX_iload hC dX0_widenFrom_14 rfl ?_
      refine GX_imul hC dX0_widenFrom_16 ?_
      refine GX_ishl hC dX0_widenFrom_17 ?_
      obtain ⟨field13, e14, h15⟩ := ob h12
      refine GX_nm (oi e14) ?_
      refine GX_istore hC [some (.ref (gad Γ 30)), some (.ref (gad Γ land1)), some (.int code2), some (.int end3), some (.int f9), some (.int field13)] dX0_widenFrom_18 (by decide) rfl rfl ?_
      refine GX_aload_n hC dX0_widenFrom_20 rfl ?_
      refine GX_aload_n hC dX0_widenFrom_21 rfl ?_
      refine GX_iload_n hC dX0_widenFrom_22 rfl ?_
      refine GX_iload hC dX0_widenFrom_23 rfl ?_
      refine GX_ior hC dX0_widenFrom_25 ?_
      obtain ⟨m16, e17, h18⟩ := ob h15
      refine GX_callV_v (st := []) hC (C_Changes_look hp_land1 e17) okX0_look lkX0_63 ol_30 rfl rfl (Nat.le_of_ble_eq_true rfl) (Nat.le_of_ble_eq_true rfl) hk rfl (Nat.le_of_ble_eq_true rfl) dX0_widenFrom_26 ?_
      refine GX_aload_n hC dX0_widenFrom_29 rfl ?_
      refine GX_aload_n hC dX0_widenFrom_30 rfl ?_
      refine GX_iload_n hC dX0_widenFrom_31 rfl ?_
      refine GX_iload hC dX0_widenFrom_32 rfl ?_
      refine GX_iconst hC (-1) dX0_widenFrom_34 rfl ?_
      refine GX_ixor hC dX0_widenFrom_35 ?_
      refine GX_iand hC dX0_widenFrom_36 ?_
      refine GX_iload_n hC dX0_widenFrom_37 rfl ?_
      refine GX_iload hC dX0_widenFrom_38 rfl ?_
      refine GX_iand hC dX0_widenFrom_40 ?_
      refine GX_ior hC dX0_widenFrom_41 ?_
      obtain ⟨m19, e20, h21⟩ := ob h18
      refine GX_callV_v (st := []) hC (C_Changes_look hp_land1 e20) okX0_look lkX0_63 ol_30 rfl rfl (Nat.le_of_ble_eq_true rfl) (Nat.le_of_ble_eq_true rfl) hk rfl (Nat.le_of_ble_eq_true rfl) dX0_widenFrom_42 ?_
      obtain ⟨i22, e23, h24⟩ := ob h21
      refine GX_iinc hC i22 [some (.ref (gad Γ 30)), some (.ref (gad Γ land1)), some (.int code2), some (.int end3), some (.int i22), some (.int field13)] dX0_widenFrom_45 rfl (oi e23) (by decide) rfl rfl ?_
      refine GX_goto hC 3 dX0_widenFrom_48 (by decide) ?_
      exact GX.le (hI8 _ (oi h24).symm) ⟨rfl, ⟨rfl, ⟨rfl, ⟨rfl, ⟨rfl, trivial⟩⟩⟩⟩⟩
    · skip
      have h25 := ifN q hx8
      exact GX.le (hJ8 _ (hO8 _ (oi h25).symm)) ⟨rfl, ⟨rfl, ⟨rfl, ⟨rfl, trivial⟩⟩⟩⟩
  intro m11 q26
  subst q26
  exact GX_vretW hC hR dX0_widenFrom_51 (oi h7)
set_option maxRecDepth 100000 in
set_option maxHeartbeats 4000000 in
theorem C_Changes_fewestBetween {l : Launch} {from1 : Nat} {to2 : Nat} {m3 : MI} {r0 : Int32} {mr : MI} (hp_from1 : isLand from1) (hp_to2 : isLand to2) (hf : Changes_fewestBetween from1 to2 m3 = some (r0, mr)) : Cn l yX0_fewestBetween cX0_fewestBetween 8 (some .int) 5 LAY (fun ad => .ref (ad 30) :: [.ref (ad from1), .ref (ad to2)]) m3 (fun _ => some (.int r0)) mr := by
  refine Cn.of (fun ad => [some (.ref (ad 30)), some (.ref (ad from1)), some (.ref (ad to2)), none, none, none, none, none]) (by decide +kernel) (fun _ => rfl) (fun _ => Nat.le_of_ble_eq_true rfl) (fun Γ hl hC hR hk => ?_)
  subst hl
  replace hC : CX Γ cX0_fewestBetween RX0 LAY 5 8 := hC
  dsimp only [Changes_fewestBetween] at hf
  refine GX_aload_n hC dX0_fewestBetween_0 rfl ?_
  obtain ⟨r4, e5, h6⟩ := ob hf
  refine GX_callS_i (st := []) hC (C_Changes_codeOf hp_from1 e5) okX0_codeOf lkX0_25 rfl (Nat.le_of_ble_eq_true rfl) (Nat.le_of_ble_eq_true rfl) hk rfl (Nat.le_of_ble_eq_true rfl) dX0_fewestBetween_1 ?_
  refine GX_istore_n hC [some (.ref (gad Γ 30)), some (.ref (gad Γ from1)), some (.ref (gad Γ to2)), some (.int r4), none, none, none, none] dX0_fewestBetween_4 (by decide) rfl rfl ?_
  refine GX_aload_n hC dX0_fewestBetween_5 rfl ?_
  obtain ⟨r7, e8, h9⟩ := ob h6
  refine GX_callS_i (st := []) hC (C_Changes_codeOf hp_to2 e8) okX0_codeOf lkX0_25 rfl (Nat.le_of_ble_eq_true rfl) (Nat.le_of_ble_eq_true rfl) hk rfl (Nat.le_of_ble_eq_true rfl) dX0_fewestBetween_6 ?_
  refine GX_istore hC [some (.ref (gad Γ 30)), some (.ref (gad Γ from1)), some (.ref (gad Γ to2)), some (.int r4), some (.int r7), none, none, none] dX0_fewestBetween_9 (by decide) rfl rfl ?_
  refine GX_iload_n hC dX0_fewestBetween_11 rfl ?_
  refine GX_iload hC dX0_fewestBetween_12 rfl ?_
  refine GX_icmp_ne_N hC 19 dX0_fewestBetween_14 (by decide) (fun q => ?_) (fun q => ?_)
  · skip
    have h10 := ifP q h9
    refine GX_iconst hC 0 dX0_fewestBetween_17 rfl ?_
    exact GX_iretW hC hR dX0_fewestBetween_18 (oi h10)
  · skip
    have h11 := ifN q h9
    refine GX_aload_n hC dX0_fewestBetween_19 rfl ?_
    refine GX_aload_n hC dX0_fewestBetween_20 rfl ?_
    refine GX_getR hC fkX0_22 ol_30 rfl dX0_fewestBetween_21 ?_
    obtain ⟨m12, e13, h14⟩ := ob h11
    refine GX_callV_v (st := []) hC (C_Land_writeBars hp_from1 al_33 e13) okX2_writeBars lkX0_29 (olLand hp_from1) rfl rfl (Nat.le_of_ble_eq_true rfl) (Nat.le_of_ble_eq_true rfl) hk rfl (Nat.le_of_ble_eq_true rfl) dX0_fewestBetween_24 ?_
    refine GX_aload_n hC dX0_fewestBetween_27 rfl ?_
    refine GX_aload_n hC dX0_fewestBetween_28 rfl ?_
    refine GX_iload hC dX0_fewestBetween_29 rfl ?_
    obtain ⟨b15, e16, h17⟩ := ob h14
    refine GX_callV_i (st := []) hC (C_Changes_isLawful hp_from1 e16) okX0_isLawful lkX0_35 ol_30 rfl rfl (Nat.le_of_ble_eq_true rfl) (Nat.le_of_ble_eq_true rfl) hk rfl (Nat.le_of_ble_eq_true rfl) dX0_fewestBetween_31 ?_
    refine GX_ifb_ne hC 40 dX0_fewestBetween_34 (by decide) (fun q => ?_) (fun q => ?_)
    · skip
      have h18 := ifT q h17
      refine GX_aload_n hC dX0_fewestBetween_40 rfl ?_
      refine GX_getR hC fkX0_11 ol_30 rfl dX0_fewestBetween_41 ?_
      refine GX_iconst hC 0 dX0_fewestBetween_44 rfl ?_
      obtain ⟨m19, e20, h21⟩ := ob h18
      refine GX_callS_v (st := []) hC (C_fill al_31 (by decide) e20) okJ_fill lkX0_39 rfl (Nat.le_of_ble_eq_true rfl) (Nat.le_of_ble_eq_true rfl) hk rfl (Nat.le_of_ble_eq_true rfl) dX0_fewestBetween_45 ?_
      refine GX_aload_n hC dX0_fewestBetween_48 rfl ?_
      refine GX_iconst hC 0 dX0_fewestBetween_49 rfl ?_
      obtain ⟨m22, e23, h24⟩ := ob h21
      refine GX_stF hC e23 fkX0_18 ftX0_2 ol_30 rfl dX0_fewestBetween_50 ?_
      refine GX_aload_n hC dX0_fewestBetween_53 rfl ?_
      refine GX_iload_n hC dX0_fewestBetween_54 rfl ?_
      obtain ⟨m25, e26, h27⟩ := ob h24
      refine GX_callV_v (st := []) hC (C_Changes_markSeen e26) okX0_markSeen lkX0_45 ol_30 rfl rfl (Nat.le_of_ble_eq_true rfl) (Nat.le_of_ble_eq_true rfl) hk rfl (Nat.le_of_ble_eq_true rfl) dX0_fewestBetween_55 ?_
      refine GX_aload_n hC dX0_fewestBetween_58 rfl ?_
      refine GX_iload_n hC dX0_fewestBetween_59 rfl ?_
      obtain ⟨m28, e29, h30⟩ := ob h27
      refine GX_callV_v (st := []) hC (C_Changes_reach e29) okX0_reach lkX0_49 ol_30 rfl rfl (Nat.le_of_ble_eq_true rfl) (Nat.le_of_ble_eq_true rfl) hk rfl (Nat.le_of_ble_eq_true rfl) dX0_fewestBetween_60 ?_
      refine GX_iconst hC 0 dX0_fewestBetween_63 rfl ?_
      refine GX_istore hC [some (.ref (gad Γ 30)), some (.ref (gad Γ from1)), some (.ref (gad Γ to2)), some (.int r4), some (.int r7), some (.int 0), none, none] dX0_fewestBetween_64 (by decide) rfl rfl ?_
      refine GX_iconst hC 1 dX0_fewestBetween_66 rfl ?_
      refine GX_istore hC [some (.ref (gad Γ 30)), some (.ref (gad Γ from1)), some (.ref (gad Γ to2)), some (.int r4), some (.int r7), some (.int 0), some (.int 1), none] dX0_fewestBetween_67 (by decide) rfl rfl ?_
      obtain ⟨o31, e32, h33⟩ := ob h30
      have hR34 : ∀ res : Int32 × MI, Sum.inr res = o31 → res = (r0, mr) := by
        intro res q
        subst q
        have h33 := seR h33
        exact (oi h33)
      suffices hJ34 : ∀ (done38 : Int32) (m39 : MI), Sum.inl (done38, m39) = o31 → GX Γ LAY 0 0 [some (.ref (gad Γ 30)), some (.ref (gad Γ from1)), some (.ref (gad Γ to2)), some (.int r4), some (.int r7), some (.int done38), none, none] [] m39 147 by
        refine lp_walk (P := fun s => GX Γ LAY 0 0 [some (.ref (gad Γ 30)), some (.ref (gad Γ from1)), some (.ref (gad Γ to2)), some (.int r4), some (.int r7), some (.int s.1), some (.int s.2.1), none] [] s.2.2 69) (fun s x hx34 hI34 hO34 => ?_) _ _ e32
        obtain ⟨done35, steps36, m37⟩ := s
        show GX Γ LAY 0 0 [some (.ref (gad Γ 30)), some (.ref (gad Γ from1)), some (.ref (gad Γ to2)), some (.int r4), some (.int r7), some (.int done35), some (.int steps36), none] [] m37 69
        dsimp only [Changes_fewestBetween_s1] at hx34
        obtain ⟨c40, e41, h42⟩ := ob hx34
        have hc43 : true = c40 → GX Γ LAY 0 0 [some (.ref (gad Γ 30)), some (.ref (gad Γ from1)), some (.ref (gad Γ to2)), some (.int r4), some (.int r7), some (.int done35), some (.int steps36), none] [] m37 86 := by
          intro q
          have h44 := ifT q.symm h42
          refine GX_aload_n hC dX0_fewestBetween_86 rfl ?_
          refine GX_getI hC fkX0_18 ol_30 rfl dX0_fewestBetween_87 ?_
          obtain ⟨ringEnd45, e46, h47⟩ := ob h44
          refine GX_nm (oi e46) ?_
          refine GX_istore hC [some (.ref (gad Γ 30)), some (.ref (gad Γ from1)), some (.ref (gad Γ to2)), some (.int r4), some (.int r7), some (.int done35), some (.int steps36), some (.int ringEnd45)] dX0_fewestBetween_90 (by decide) rfl rfl ?_
          obtain ⟨o48, e49, h50⟩ := ob h47
          suffices hJ51 : ∀ (done54 : Int32) (m55 : MI), (done54, m55) = o48 → GX Γ LAY 0 0 [some (.ref (gad Γ 30)), some (.ref (gad Γ from1)), some (.ref (gad Γ to2)), some (.int r4), some (.int r7), some (.int done54), some (.int steps36), some (.int ringEnd45)] [] m55 129 by
            refine lp_walk (P := fun s => GX Γ LAY 0 0 [some (.ref (gad Γ 30)), some (.ref (gad Γ from1)), some (.ref (gad Γ to2)), some (.int r4), some (.int r7), some (.int s.1), some (.int steps36), some (.int ringEnd45)] [] s.2 92) (fun s x hx51 hI51 hO51 => ?_) _ _ e49
            obtain ⟨done52, m53⟩ := s
            show GX Γ LAY 0 0 [some (.ref (gad Γ 30)), some (.ref (gad Γ from1)), some (.ref (gad Γ to2)), some (.int r4), some (.int r7), some (.int done52), some (.int steps36), some (.int ringEnd45)] [] m53 92
            dsimp only [Changes_fewestBetween_s2] at hx51
            obtain ⟨c56, e57, h58⟩ := ob hx51
            have hc59 : true = c56 → GX Γ LAY 0 0 [some (.ref (gad Γ 30)), some (.ref (gad Γ from1)), some (.ref (gad Γ to2)), some (.int r4), some (.int r7), some (.int done52), some (.int steps36), some (.int ringEnd45)] [] m53 109 := by
              intro q
              have h60 := ifT q.symm h58
              refine GX_aload_n hC dX0_fewestBetween_109 rfl ?_
              refine GX_aload_n hC dX0_fewestBetween_110 rfl ?_
              refine GX_aload_n hC dX0_fewestBetween_111 rfl ?_
              refine GX_getR hC fkX0_15 ol_30 rfl dX0_fewestBetween_112 ?_
              refine GX_iload hC dX0_fewestBetween_115 rfl ?_
              obtain ⟨x61, e62, h63⟩ := ob h60
              refine GX_ldA hC e62 al_32 dX0_fewestBetween_117 ?_
              refine GX_iload hC dX0_fewestBetween_118 rfl ?_
              obtain ⟨m64, e65, h66⟩ := ob h63
              refine GX_callV_v (st := []) hC (C_Changes_widenFrom hp_from1 e65) okX0_widenFrom lkX0_52 ol_30 rfl rfl (Nat.le_of_ble_eq_true rfl) (Nat.le_of_ble_eq_true rfl) hk rfl (Nat.le_of_ble_eq_true rfl) dX0_fewestBetween_120 ?_
              obtain ⟨i67, e68, h69⟩ := ob h66
              refine GX_iinc hC i67 [some (.ref (gad Γ 30)), some (.ref (gad Γ from1)), some (.ref (gad Γ to2)), some (.int r4), some (.int r7), some (.int i67), some (.int steps36), some (.int ringEnd45)] dX0_fewestBetween_123 rfl (oi e68) (by decide) rfl rfl ?_
              refine GX_goto hC 92 dX0_fewestBetween_126 (by decide) ?_
              exact hI51 _ (oi h69).symm
            have hc70 : false = c56 → GX Γ LAY 0 0 [some (.ref (gad Γ 30)), some (.ref (gad Γ from1)), some (.ref (gad Γ to2)), some (.int r4), some (.int r7), some (.int done52), some (.int steps36), some (.int ringEnd45)] [] m53 129 := by
              intro q
              have h71 := ifF q.symm h58
              exact (hJ51 _ _ (hO51 _ (oi h71).symm))
            refine GX_iload hC dX0_fewestBetween_92 rfl ?_
            refine GX_iload hC dX0_fewestBetween_94 rfl ?_
            refine GX_icmp_ge_N hC 129 dX0_fewestBetween_96 (by decide) (fun q => ?_) (fun q => ?_)
            · skip
              have h72 := ifP q e57
              refine GX_iload hC dX0_fewestBetween_99 rfl ?_
              refine GX_aload_n hC dX0_fewestBetween_101 rfl ?_
              refine GX_getR hC fkX0_15 ol_30 rfl dX0_fewestBetween_102 ?_
              refine GX_alen hC 729 al_32 (by decide) rfl dX0_fewestBetween_105 ?_
              refine GX_icmp_ge_N hC 129 dX0_fewestBetween_106 (by decide) (fun q => ?_) (fun q => ?_)
              · skip
                exact hc59 (cdT q h72)
              · skip
                exact hc70 (cdF q h72)
            · skip
              have h73 := ifN q e57
              exact hc70 (oi h73)
          intro done54 m55 q74
          subst q74
          refine GX_aload_n hC dX0_fewestBetween_129 rfl ?_
          refine GX_iload hC dX0_fewestBetween_130 rfl ?_
          obtain ⟨b75, e76, h77⟩ := ob h50
          refine GX_callV_i (st := []) hC (C_Changes_isSeen e76) okX0_isSeen lkX0_56 ol_30 rfl rfl (Nat.le_of_ble_eq_true rfl) (Nat.le_of_ble_eq_true rfl) hk rfl (Nat.le_of_ble_eq_true rfl) dX0_fewestBetween_132 ?_
          refine GX_ifb_eq hC 141 dX0_fewestBetween_135 (by decide) (fun q => ?_) (fun q => ?_)
          · skip
            have h78 := ifT q h77
            refine GX_iload hC dX0_fewestBetween_138 rfl ?_
            exact GX_iretW hC hR dX0_fewestBetween_140 (hR34 _ (hO34 _ (oi h78).symm))
          · skip
            have h79 := ifF q h77
            obtain ⟨i80, e81, h82⟩ := ob h79
            refine GX_iinc hC i80 [some (.ref (gad Γ 30)), some (.ref (gad Γ from1)), some (.ref (gad Γ to2)), some (.int r4), some (.int r7), some (.int done54), some (.int i80), some (.int ringEnd45)] dX0_fewestBetween_141 rfl (oi e81) (by decide) rfl rfl ?_
            refine GX_goto hC 69 dX0_fewestBetween_144 (by decide) ?_
            exact GX.le (hI34 _ (oi h82).symm) ⟨rfl, ⟨rfl, ⟨rfl, ⟨rfl, ⟨rfl, ⟨rfl, ⟨rfl, trivial⟩⟩⟩⟩⟩⟩⟩
        have hc83 : false = c40 → GX Γ LAY 0 0 [some (.ref (gad Γ 30)), some (.ref (gad Γ from1)), some (.ref (gad Γ to2)), some (.int r4), some (.int r7), some (.int done35), some (.int steps36), none] [] m37 147 := by
          intro q
          have h84 := ifF q.symm h42
          exact GX.le (hJ34 _ _ (hO34 _ (oi h84).symm)) ⟨rfl, ⟨rfl, ⟨rfl, ⟨rfl, ⟨rfl, ⟨rfl, trivial⟩⟩⟩⟩⟩⟩
        refine GX_iload hC dX0_fewestBetween_69 rfl ?_
        refine GX_sipush hC 729 dX0_fewestBetween_71 rfl ?_
        refine GX_icmp_ge_N hC 147 dX0_fewestBetween_74 (by decide) (fun q => ?_) (fun q => ?_)
        · skip
          have h85 := ifP q e41
          refine GX_iload hC dX0_fewestBetween_77 rfl ?_
          refine GX_aload_n hC dX0_fewestBetween_79 rfl ?_
          refine GX_getI hC fkX0_18 ol_30 rfl dX0_fewestBetween_80 ?_
          refine GX_icmp_ge_N hC 147 dX0_fewestBetween_83 (by decide) (fun q => ?_) (fun q => ?_)
          · skip
            exact hc43 (cdT q h85)
          · skip
            exact hc83 (cdF q h85)
        · skip
          have h86 := ifN q e41
          exact hc83 (oi h86)
      intro done38 m39 q87
      subst q87
      have h33 := seL h33
      refine GX_bipush hC (-4) dX0_fewestBetween_147 rfl ?_
      exact GX_iretW hC hR dX0_fewestBetween_149 (oi h33)
    · skip
      have h89 := ifF q h17
      refine GX_bipush hC (-4) dX0_fewestBetween_37 rfl ?_
      exact GX_iretW hC hR dX0_fewestBetween_39 (oi h89)
