set_option maxRecDepth 100000 in
set_option maxHeartbeats 4000000 in
theorem C_DeedBook_canStandWithout {l : Launch} {struck1 : Int32} {m2 : MI} {r0 : Bool}  (hf : DeedBook_canStandWithout struck1 m2 = some r0) : Cn l yX1_canStandWithout cX1_canStandWithout 3 (some .boolean) 0 LAY (fun ad => .ref (ad 36) :: [.int struck1]) m2 (fun _ => some (.int (bI r0))) m2 := by
  refine Cn.of (fun ad => [some (.ref (ad 36)), some (.int struck1), none]) (by decide +kernel) (fun _ => rfl) (fun _ => Nat.le_of_ble_eq_true rfl) (fun Γ hl hC hR hk => ?_)
  subst hl
  replace hC : CX Γ cX1_canStandWithout RX1 LAY 0 3 := hC
  dsimp only [DeedBook_canStandWithout] at hf
  refine GX_iconst hC 0 dX1_canStandWithout_0 rfl ?_
  refine GX_istore_n hC [some (.ref (gad Γ 36)), some (.int struck1), some (.int 0)] dX1_canStandWithout_1 (by decide) rfl rfl ?_
  obtain ⟨o3, e4, h5⟩ := ob hf
  have hR6 : ∀ res : Bool, Sum.inr res = o3 → res = r0 := by
    intro res q
    subst q
    have h5 := seR h5
    exact (oi h5)
  suffices hJ6 : Sum.inl () = o3 → GX Γ LAY 0 0 [some (.ref (gad Γ 36)), some (.int struck1), none] [] m2 48 by
    refine lp_walk (P := fun s => GX Γ LAY 0 0 [some (.ref (gad Γ 36)), some (.int struck1), some (.int s)] [] m2 2) (fun i7 x hx6 hI6 hO6 => ?_) _ _ e4
    show GX Γ LAY 0 0 [some (.ref (gad Γ 36)), some (.int struck1), some (.int i7)] [] m2 2
    dsimp only [DeedBook_canStandWithout_s1] at hx6
    obtain ⟨c8, e9, h10⟩ := ob hx6
    have hc11 : true = c8 → GX Γ LAY 0 0 [some (.ref (gad Γ 36)), some (.int struck1), some (.int i7)] [] m2 19 := by
      intro q
      have h12 := ifT q.symm h10
      obtain ⟨c13, e14, h15⟩ := ob h12
      have hc16 : true = c13 → GX Γ LAY 0 0 [some (.ref (gad Γ 36)), some (.int struck1), some (.int i7)] [] m2 40 := by
        intro q
        have h17 := ifT q.symm h15
        refine GX_iconst hC (bI false) dX1_canStandWithout_40 rfl ?_
        exact GX_zretR hC false hR dX1_canStandWithout_41 (hR6 _ (hO6 _ (oi h17).symm))
      have hc18 : false = c13 → GX Γ LAY 0 0 [some (.ref (gad Γ 36)), some (.int struck1), some (.int i7)] [] m2 42 := by
        intro q
        have h19 := ifF q.symm h15
        obtain ⟨i20, e21, h22⟩ := ob h19
        refine GX_iinc hC i20 [some (.ref (gad Γ 36)), some (.int struck1), some (.int i20)] dX1_canStandWithout_42 rfl (oi e21) (by decide) rfl rfl ?_
        refine GX_goto hC 2 dX1_canStandWithout_45 (by decide) ?_
        exact hI6 _ (oi h22).symm
      refine GX_iload_n hC dX1_canStandWithout_19 rfl ?_
      refine GX_iload_n hC dX1_canStandWithout_20 rfl ?_
      refine GX_ishr hC dX1_canStandWithout_21 ?_
      refine GX_iconst hC 1 dX1_canStandWithout_22 rfl ?_
      refine GX_iand hC dX1_canStandWithout_23 ?_
      refine GX_if_ne_N hC 42 dX1_canStandWithout_24 (by decide) (fun q => ?_) (fun q => ?_)
      · skip
        have h23 := ifP q e14
        refine GX_aload_n hC dX1_canStandWithout_27 rfl ?_
        refine GX_getR hC fkX1_15 ol_36 rfl dX1_canStandWithout_28 ?_
        refine GX_iload_n hC dX1_canStandWithout_31 rfl ?_
        obtain ⟨x24, e25, h26⟩ := ob h23
        refine GX_ldA hC e25 al_37 dX1_canStandWithout_32 ?_
        refine GX_iload_n hC dX1_canStandWithout_33 rfl ?_
        refine GX_iconst hC (-1) dX1_canStandWithout_34 rfl ?_
        refine GX_ixor hC dX1_canStandWithout_35 ?_
        refine GX_iand hC dX1_canStandWithout_36 ?_
        refine GX_if_eq_N hC 42 dX1_canStandWithout_37 (by decide) (fun q => ?_) (fun q => ?_)
        · skip
          exact hc16 (cdT q h26)
        · skip
          exact hc18 (cdF q h26)
      · skip
        have h27 := ifN q e14
        exact hc18 (oi h27)
    have hc28 : false = c8 → GX Γ LAY 0 0 [some (.ref (gad Γ 36)), some (.int struck1), some (.int i7)] [] m2 48 := by
      intro q
      have h29 := ifF q.symm h10
      exact GX.le (hJ6 (hO6 _ (oi h29).symm)) ⟨rfl, ⟨rfl, trivial⟩⟩
    refine GX_iload_n hC dX1_canStandWithout_2 rfl ?_
    refine GX_aload_n hC dX1_canStandWithout_3 rfl ?_
    refine GX_getI hC fkX1_9 ol_36 rfl dX1_canStandWithout_4 ?_
    refine GX_icmp_ge_N hC 48 dX1_canStandWithout_7 (by decide) (fun q => ?_) (fun q => ?_)
    · skip
      have h30 := ifP q e9
      refine GX_iload_n hC dX1_canStandWithout_10 rfl ?_
      refine GX_aload_n hC dX1_canStandWithout_11 rfl ?_
      refine GX_getR hC fkX1_15 ol_36 rfl dX1_canStandWithout_12 ?_
      refine GX_alen hC 8 al_37 (by decide) rfl dX1_canStandWithout_15 ?_
      refine GX_icmp_ge_N hC 48 dX1_canStandWithout_16 (by decide) (fun q => ?_) (fun q => ?_)
      · skip
        exact hc11 (cdT q h30)
      · skip
        exact hc28 (cdF q h30)
    · skip
      have h31 := ifN q e9
      exact hc28 (oi h31)
  intro q32
  subst q32
  have h5 := seL h5
  refine GX_iconst hC (bI true) dX1_canStandWithout_48 rfl ?_
  exact GX_zretR hC true hR dX1_canStandWithout_49 (oi h5)
set_option maxRecDepth 100000 in
set_option maxHeartbeats 4000000 in
theorem C_DeedBook_fewestStruck {l : Launch} {m1 : MI} {r0 : Int32}  (hf : DeedBook_fewestStruck m1 = some r0) : Cn l yX1_fewestStruck cX1_fewestStruck 3 (some .int) 1 LAY (fun ad => .ref (ad 36) :: []) m1 (fun _ => some (.int r0)) m1 := by
  refine Cn.of (fun ad => [some (.ref (ad 36)), none, none]) (by decide +kernel) (fun _ => rfl) (fun _ => Nat.le_of_ble_eq_true rfl) (fun Γ hl hC hR hk => ?_)
  subst hl
  replace hC : CX Γ cX1_fewestStruck RX1 LAY 1 3 := hC
  dsimp only [DeedBook_fewestStruck] at hf
  refine GX_iconst hC 1 dX1_fewestStruck_0 rfl ?_
  refine GX_aload_n hC dX1_fewestStruck_1 rfl ?_
  refine GX_getI hC fkX1_9 ol_36 rfl dX1_fewestStruck_2 ?_
  refine GX_ishl hC dX1_fewestStruck_5 ?_
  refine GX_iconst hC 1 dX1_fewestStruck_6 rfl ?_
  refine GX_isub hC dX1_fewestStruck_7 ?_
  obtain ⟨fewest2, e3, h4⟩ := ob hf
  refine GX_nm (oi e3) ?_
  refine GX_istore_n hC [some (.ref (gad Γ 36)), some (.int fewest2), none] dX1_fewestStruck_8 (by decide) rfl rfl ?_
  refine GX_iconst hC 0 dX1_fewestStruck_9 rfl ?_
  refine GX_istore_n hC [some (.ref (gad Γ 36)), some (.int fewest2), some (.int 0)] dX1_fewestStruck_10 (by decide) rfl rfl ?_
  obtain ⟨o5, e6, h7⟩ := ob h4
  suffices hJ8 : ∀ (fewest11 : Int32), fewest11 = o5 → GX Γ LAY 0 0 [some (.ref (gad Γ 36)), some (.int fewest11), none] [] m1 48 by
    refine lp_walk (P := fun s => GX Γ LAY 0 0 [some (.ref (gad Γ 36)), some (.int s.1), some (.int s.2)] [] m1 11) (fun s x hx8 hI8 hO8 => ?_) _ _ e6
    obtain ⟨fewest9, bits10⟩ := s
    show GX Γ LAY 0 0 [some (.ref (gad Γ 36)), some (.int fewest9), some (.int bits10)] [] m1 11
    dsimp only [DeedBook_fewestStruck_s1] at hx8
    refine GX_iload_n hC dX1_fewestStruck_11 rfl ?_
    refine GX_iconst hC 1 dX1_fewestStruck_12 rfl ?_
    refine GX_aload_n hC dX1_fewestStruck_13 rfl ?_
    refine GX_getI hC fkX1_9 ol_36 rfl dX1_fewestStruck_14 ?_
    refine GX_ishl hC dX1_fewestStruck_17 ?_
    refine GX_icmp_ge_N hC 48 dX1_fewestStruck_18 (by decide) (fun q => ?_) (fun q => ?_)
    · skip
      have h12 := ifP q hx8
      obtain ⟨o13, e14, h15⟩ := ob h12
      suffices hJ17 : ∀ (fewest16 : Int32), fewest16 = o13 → GX Γ LAY 0 0 [some (.ref (gad Γ 36)), some (.int fewest16), some (.int bits10)] [] m1 42 by
        obtain ⟨c18, e19, h20⟩ := ob e14
        have hc21 : true = c18 → GX Γ LAY 0 0 [some (.ref (gad Γ 36)), some (.int fewest9), some (.int bits10)] [] m1 40 := by
          intro q
          have h22 := ifT q.symm h20
          refine GX_iload_n hC dX1_fewestStruck_40 rfl ?_
          refine GX_istore_n hC [some (.ref (gad Γ 36)), some (.int bits10), some (.int bits10)] dX1_fewestStruck_41 (by decide) rfl rfl ?_
          exact (hJ17 _ (oi h22))
        have hc23 : false = c18 → GX Γ LAY 0 0 [some (.ref (gad Γ 36)), some (.int fewest9), some (.int bits10)] [] m1 42 := by
          intro q
          have h24 := ifF q.symm h20
          exact (hJ17 _ (oi h24))
        refine GX_iload_n hC dX1_fewestStruck_21 rfl ?_
        refine GX_callS_i (st := []) hC (C_bitCount bits10 m1) okJ_bitCount lkX1_53 rfl (Nat.le_of_ble_eq_true rfl) (Nat.le_of_ble_eq_true rfl) hk rfl (Nat.le_of_ble_eq_true rfl) dX1_fewestStruck_22 ?_
        refine GX_iload_n hC dX1_fewestStruck_25 rfl ?_
        refine GX_callS_i (st := [.int (bc bits10)]) hC (C_bitCount fewest9 m1) okJ_bitCount lkX1_53 rfl (Nat.le_of_ble_eq_true rfl) (Nat.le_of_ble_eq_true rfl) hk rfl (Nat.le_of_ble_eq_true rfl) dX1_fewestStruck_26 ?_
        refine GX_icmp_ge_N hC 42 dX1_fewestStruck_29 (by decide) (fun q => ?_) (fun q => ?_)
        · skip
          have h25 := ifP q e19
          refine GX_aload_n hC dX1_fewestStruck_32 rfl ?_
          refine GX_iload_n hC dX1_fewestStruck_33 rfl ?_
          obtain ⟨b26, e27, h28⟩ := ob h25
          refine GX_callV_i (st := []) hC (C_DeedBook_canStandWithout e27) okX1_canStandWithout lkX1_58 ol_36 rfl rfl (Nat.le_of_ble_eq_true rfl) (Nat.le_of_ble_eq_true rfl) hk rfl (Nat.le_of_ble_eq_true rfl) dX1_fewestStruck_34 ?_
          refine GX_ifb_eq hC 42 dX1_fewestStruck_37 (by decide) (fun q => ?_) (fun q => ?_)
          · skip
            exact hc21 (cbT q h28)
          · skip
            exact hc23 (cbF q h28)
        · skip
          have h29 := ifN q e19
          exact hc23 (oi h29)
      intro fewest16 q30
      subst q30
      obtain ⟨i31, e32, h33⟩ := ob h15
      refine GX_iinc hC i31 [some (.ref (gad Γ 36)), some (.int fewest16), some (.int i31)] dX1_fewestStruck_42 rfl (oi e32) (by decide) rfl rfl ?_
      refine GX_goto hC 11 dX1_fewestStruck_45 (by decide) ?_
      exact hI8 _ (oi h33).symm
    · skip
      have h34 := ifN q hx8
      exact GX.le (hJ8 _ (hO8 _ (oi h34).symm)) ⟨rfl, ⟨rfl, trivial⟩⟩
  intro fewest11 q35
  subst q35
  refine GX_iload_n hC dX1_fewestStruck_48 rfl ?_
  exact GX_iretR hC hR dX1_fewestStruck_49 (oi h7)
set_option maxRecDepth 100000 in
set_option maxHeartbeats 4000000 in
theorem C_DeedBook_clash {l : Launch} {land1 : Nat} {row2 : Nat} {x3 : Int32} {otherAt4 : Int32} {m5 : MI} {r0 : Bool} (hp_land1 : isLand land1) (hp_row2 : isShelf row2) (hf : DeedBook_clash land1 row2 x3 otherAt4 m5 = some r0) : Cn l yX1_clash cX1_clash 6 (some .boolean) 2 LAY (fun ad => [.ref (ad land1), .ref (ad row2), .int x3, .int otherAt4]) m5 (fun _ => some (.int (bI r0))) m5 := by
  refine Cn.of (fun ad => [some (.ref (ad land1)), some (.ref (ad row2)), some (.int x3), some (.int otherAt4), none, none]) (by decide +kernel) (fun _ => rfl) (fun _ => Nat.le_of_ble_eq_true rfl) (fun Γ hl hC hR hk => ?_)
  subst hl
  replace hC : CX Γ cX1_clash RX1 LAY 2 6 := hC
  dsimp only [DeedBook_clash] at hf
  refine GX_aload_n hC dX1_clash_0 rfl ?_
  refine GX_iload_n hC dX1_clash_1 rfl ?_
  refine GX_iconst hC 2 dX1_clash_2 rfl ?_
  refine GX_iadd hC dX1_clash_3 ?_
  obtain ⟨r6, e7, h8⟩ := ob hf
  refine GX_callV_i (st := []) hC (C_Shelf_at hp_row2 e7) okX8_at lkX1_32 (olShelf hp_row2) rfl rfl (Nat.le_of_ble_eq_true rfl) (Nat.le_of_ble_eq_true rfl) hk rfl (Nat.le_of_ble_eq_true rfl) dX1_clash_4 ?_
  refine GX_aload_n hC dX1_clash_7 rfl ?_
  refine GX_iload_n hC dX1_clash_8 rfl ?_
  refine GX_iconst hC 2 dX1_clash_9 rfl ?_
  refine GX_iadd hC dX1_clash_10 ?_
  obtain ⟨r9, e10, h11⟩ := ob h8
  refine GX_callV_i (st := [.int r6]) hC (C_Shelf_at hp_row2 e10) okX8_at lkX1_32 (olShelf hp_row2) rfl rfl (Nat.le_of_ble_eq_true rfl) (Nat.le_of_ble_eq_true rfl) hk rfl (Nat.le_of_ble_eq_true rfl) dX1_clash_11 ?_
  refine GX_icmp_eq_N hC 19 dX1_clash_14 (by decide) (fun q => ?_) (fun q => ?_)
  · skip
    have h12 := ifP q h11
    refine GX_iconst hC (bI false) dX1_clash_17 rfl ?_
    exact GX_zretR hC false hR dX1_clash_18 (oi h12)
  · skip
    have h13 := ifN q h11
    obtain ⟨c14, e15, h16⟩ := ob h13
    suffices hJ17 : GX Γ LAY 0 0 [some (.ref (gad Γ land1)), some (.ref (gad Γ row2)), some (.int x3), some (.int otherAt4), none, none] [.int (bI c14)] m5 37 by
      have hc18 : true = c14 → GX Γ LAY 0 0 [some (.ref (gad Γ land1)), some (.ref (gad Γ row2)), some (.int x3), some (.int otherAt4), none, none] [] m5 32 := by
        intro q
        subst q
        refine GX_iconst hC (bI true) dX1_clash_32 rfl ?_
        refine GX_goto hC 37 dX1_clash_33 (by decide) ?_
        exact hJ17
      have hc19 : false = c14 → GX Γ LAY 0 0 [some (.ref (gad Γ land1)), some (.ref (gad Γ row2)), some (.int x3), some (.int otherAt4), none, none] [] m5 36 := by
        intro q
        subst q
        refine GX_iconst hC (bI false) dX1_clash_36 rfl ?_
        exact hJ17
      refine GX_aload_n hC dX1_clash_19 rfl ?_
      refine GX_iload_n hC dX1_clash_20 rfl ?_
      obtain ⟨r20, e21, h22⟩ := ob e15
      refine GX_callV_i (st := []) hC (C_Shelf_at hp_row2 e21) okX8_at lkX1_32 (olShelf hp_row2) rfl rfl (Nat.le_of_ble_eq_true rfl) (Nat.le_of_ble_eq_true rfl) hk rfl (Nat.le_of_ble_eq_true rfl) dX1_clash_21 ?_
      refine GX_aload_n hC dX1_clash_24 rfl ?_
      refine GX_iload_n hC dX1_clash_25 rfl ?_
      obtain ⟨r23, e24, h25⟩ := ob h22
      refine GX_callV_i (st := [.int r20]) hC (C_Shelf_at hp_row2 e24) okX8_at lkX1_32 (olShelf hp_row2) rfl rfl (Nat.le_of_ble_eq_true rfl) (Nat.le_of_ble_eq_true rfl) hk rfl (Nat.le_of_ble_eq_true rfl) dX1_clash_26 ?_
      refine GX_icmp_ne_N hC 36 dX1_clash_29 (by decide) (fun q => ?_) (fun q => ?_)
      · skip
        exact hc18 (cdT q h25)
      · skip
        exact hc19 (cdF q h25)
    refine GX_istore hC [some (.ref (gad Γ land1)), some (.ref (gad Γ row2)), some (.int x3), some (.int otherAt4), some (.int (bI c14)), none] dX1_clash_37 (by decide) rfl rfl ?_
    obtain ⟨c26, e27, h28⟩ := ob h16
    suffices hJ29 : GX Γ LAY 0 0 [some (.ref (gad Γ land1)), some (.ref (gad Γ row2)), some (.int x3), some (.int otherAt4), some (.int (bI c14)), none] [.int (bI c26)] m5 61 by
      have hc30 : true = c26 → GX Γ LAY 0 0 [some (.ref (gad Γ land1)), some (.ref (gad Γ row2)), some (.int x3), some (.int otherAt4), some (.int (bI c14)), none] [] m5 56 := by
        intro q
        subst q
        refine GX_iconst hC (bI true) dX1_clash_56 rfl ?_
        refine GX_goto hC 61 dX1_clash_57 (by decide) ?_
        exact hJ29
      have hc31 : false = c26 → GX Γ LAY 0 0 [some (.ref (gad Γ land1)), some (.ref (gad Γ row2)), some (.int x3), some (.int otherAt4), some (.int (bI c14)), none] [] m5 60 := by
        intro q
        subst q
        refine GX_iconst hC (bI false) dX1_clash_60 rfl ?_
        exact hJ29
      refine GX_aload_n hC dX1_clash_39 rfl ?_
      refine GX_iload_n hC dX1_clash_40 rfl ?_
      refine GX_iconst hC 1 dX1_clash_41 rfl ?_
      refine GX_iadd hC dX1_clash_42 ?_
      obtain ⟨r32, e33, h34⟩ := ob e27
      refine GX_callV_i (st := []) hC (C_Shelf_at hp_row2 e33) okX8_at lkX1_32 (olShelf hp_row2) rfl rfl (Nat.le_of_ble_eq_true rfl) (Nat.le_of_ble_eq_true rfl) hk rfl (Nat.le_of_ble_eq_true rfl) dX1_clash_43 ?_
      refine GX_aload_n hC dX1_clash_46 rfl ?_
      refine GX_iload_n hC dX1_clash_47 rfl ?_
      refine GX_iconst hC 1 dX1_clash_48 rfl ?_
      refine GX_iadd hC dX1_clash_49 ?_
      obtain ⟨r35, e36, h37⟩ := ob h34
      refine GX_callV_i (st := [.int r32]) hC (C_Shelf_at hp_row2 e36) okX8_at lkX1_32 (olShelf hp_row2) rfl rfl (Nat.le_of_ble_eq_true rfl) (Nat.le_of_ble_eq_true rfl) hk rfl (Nat.le_of_ble_eq_true rfl) dX1_clash_50 ?_
      refine GX_icmp_ne_N hC 60 dX1_clash_53 (by decide) (fun q => ?_) (fun q => ?_)
      · skip
        exact hc30 (cdT q h37)
      · skip
        exact hc31 (cdF q h37)
    refine GX_istore hC [some (.ref (gad Γ land1)), some (.ref (gad Γ row2)), some (.int x3), some (.int otherAt4), some (.int (bI c14)), some (.int (bI c26))] dX1_clash_61 (by decide) rfl rfl ?_
    obtain ⟨b38, e39, h40⟩ := ob h28
    suffices hJ41 : GX Γ LAY 0 0 [some (.ref (gad Γ land1)), some (.ref (gad Γ row2)), some (.int x3), some (.int otherAt4), some (.int (bI c14)), some (.int (bI c26))] [.int (bI b38)] m5 91 by
      refine GX_iload hC dX1_clash_63 rfl ?_
      refine GX_ifb_eq hC 89 dX1_clash_65 (by decide) (fun q => ?_) (fun q => ?_)
      · skip
        have h42 := ifT q e39
        refine GX_aload_n hC dX1_clash_68 rfl ?_
        refine GX_aload_n hC dX1_clash_69 rfl ?_
        refine GX_iload_n hC dX1_clash_70 rfl ?_
        refine GX_iconst hC 1 dX1_clash_71 rfl ?_
        refine GX_iadd hC dX1_clash_72 ?_
        obtain ⟨r43, e44, h45⟩ := ob h42
        refine GX_callV_i (st := [.ref (gad Γ land1)]) hC (C_Shelf_at hp_row2 e44) okX8_at lkX1_32 (olShelf hp_row2) rfl rfl (Nat.le_of_ble_eq_true rfl) (Nat.le_of_ble_eq_true rfl) hk rfl (Nat.le_of_ble_eq_true rfl) dX1_clash_73 ?_
        refine GX_aload_n hC dX1_clash_76 rfl ?_
        refine GX_iload_n hC dX1_clash_77 rfl ?_
        refine GX_iconst hC 1 dX1_clash_78 rfl ?_
        refine GX_iadd hC dX1_clash_79 ?_
        obtain ⟨r46, e47, h48⟩ := ob h45
        refine GX_callV_i (st := [.int r43, .ref (gad Γ land1)]) hC (C_Shelf_at hp_row2 e47) okX8_at lkX1_32 (olShelf hp_row2) rfl rfl (Nat.le_of_ble_eq_true rfl) (Nat.le_of_ble_eq_true rfl) hk rfl (Nat.le_of_ble_eq_true rfl) dX1_clash_80 ?_
        obtain ⟨b49, e50, h51⟩ := ob h48
        refine GX_callV_i (st := []) hC (C_Land_bars hp_land1 e50) okX2_bars lkX1_49 (olLand hp_land1) rfl rfl (Nat.le_of_ble_eq_true rfl) (Nat.le_of_ble_eq_true rfl) hk rfl (Nat.le_of_ble_eq_true rfl) dX1_clash_83 ?_
        refine GX_goto hC 91 dX1_clash_86 (by decide) ?_
        exact GX_nmb (oi h51) hJ41
      · skip
        have h52 := ifF q e39
        refine GX_iload hC dX1_clash_89 rfl ?_
        exact GX_nmb (oi h52) hJ41
    exact GX_zretR hC b38 hR dX1_clash_91 (oi h40)
set_option maxRecDepth 100000 in
set_option maxHeartbeats 4000000 in
theorem C_DeedBook_clashesOf {l : Launch} {land1 : Nat} {row2 : Nat} {deed3 : Int32} {m4 : MI} {r0 : Int32} (hp_land1 : isLand land1) (hp_row2 : isShelf row2) (hf : DeedBook_clashesOf land1 row2 deed3 m4 = some r0) : Cn l yX1_clashesOf cX1_clashesOf 6 (some .int) 3 LAY (fun ad => .ref (ad 36) :: [.ref (ad land1), .ref (ad row2), .int deed3]) m4 (fun _ => some (.int r0)) m4 := by
  refine Cn.of (fun ad => [some (.ref (ad 36)), some (.ref (ad land1)), some (.ref (ad row2)), some (.int deed3), none, none]) (by decide +kernel) (fun _ => rfl) (fun _ => Nat.le_of_ble_eq_true rfl) (fun Γ hl hC hR hk => ?_)
  subst hl
  replace hC : CX Γ cX1_clashesOf RX1 LAY 3 6 := hC
  dsimp only [DeedBook_clashesOf] at hf
  refine GX_iconst hC 0 dX1_clashesOf_0 rfl ?_
  refine GX_istore hC [some (.ref (gad Γ 36)), some (.ref (gad Γ land1)), some (.ref (gad Γ row2)), some (.int deed3), some (.int 0), none] dX1_clashesOf_1 (by decide) rfl rfl ?_
  refine GX_iconst hC 0 dX1_clashesOf_3 rfl ?_
  refine GX_istore hC [some (.ref (gad Γ 36)), some (.ref (gad Γ land1)), some (.ref (gad Γ row2)), some (.int deed3), some (.int 0), some (.int 0)] dX1_clashesOf_4 (by decide) rfl rfl ?_
  obtain ⟨o5, e6, h7⟩ := ob hf
  suffices hJ8 : ∀ (bits11 : Int32), bits11 = o5 → GX Γ LAY 0 0 [some (.ref (gad Γ 36)), some (.ref (gad Γ land1)), some (.ref (gad Γ row2)), some (.int deed3), some (.int bits11), none] [] m4 49 by
    refine lp_walk (P := fun s => GX Γ LAY 0 0 [some (.ref (gad Γ 36)), some (.ref (gad Γ land1)), some (.ref (gad Γ row2)), some (.int deed3), some (.int s.1), some (.int s.2)] [] m4 6) (fun s x hx8 hI8 hO8 => ?_) _ _ e6
    obtain ⟨bits9, i10⟩ := s
    show GX Γ LAY 0 0 [some (.ref (gad Γ 36)), some (.ref (gad Γ land1)), some (.ref (gad Γ row2)), some (.int deed3), some (.int bits9), some (.int i10)] [] m4 6
    dsimp only [DeedBook_clashesOf_s1] at hx8
    refine GX_iload hC dX1_clashesOf_6 rfl ?_
    refine GX_aload_n hC dX1_clashesOf_8 rfl ?_
    refine GX_getI hC fkX1_9 ol_36 rfl dX1_clashesOf_9 ?_
    refine GX_icmp_ge_N hC 49 dX1_clashesOf_12 (by decide) (fun q => ?_) (fun q => ?_)
    · skip
      have h12 := ifP q hx8
      refine GX_iload hC dX1_clashesOf_15 rfl ?_
      obtain ⟨x13, e14, h15⟩ := ob h12
      suffices hJ16 : GX Γ LAY 0 0 [some (.ref (gad Γ 36)), some (.ref (gad Γ land1)), some (.ref (gad Γ row2)), some (.int deed3), some (.int bits9), some (.int i10)] [.int x13, .int bits9] m4 40 by
        refine GX_aload_n hC dX1_clashesOf_17 rfl ?_
        refine GX_aload_n hC dX1_clashesOf_18 rfl ?_
        refine GX_iconst hC 3 dX1_clashesOf_19 rfl ?_
        refine GX_iload_n hC dX1_clashesOf_20 rfl ?_
        refine GX_imul hC dX1_clashesOf_21 ?_
        refine GX_iconst hC 3 dX1_clashesOf_22 rfl ?_
        refine GX_iload hC dX1_clashesOf_23 rfl ?_
        refine GX_imul hC dX1_clashesOf_25 ?_
        obtain ⟨b17, e18, h19⟩ := ob e14
        refine GX_callS_i (st := [.int bits9]) hC (C_DeedBook_clash hp_land1 hp_row2 e18) okX1_clash lkX1_45 rfl (Nat.le_of_ble_eq_true rfl) (Nat.le_of_ble_eq_true rfl) hk rfl (Nat.le_of_ble_eq_true rfl) dX1_clashesOf_26 ?_
        refine GX_ifb_eq hC 39 dX1_clashesOf_29 (by decide) (fun q => ?_) (fun q => ?_)
        · skip
          have h20 := ifT q h19
          refine GX_iconst hC 1 dX1_clashesOf_32 rfl ?_
          refine GX_iload hC dX1_clashesOf_33 rfl ?_
          refine GX_ishl hC dX1_clashesOf_35 ?_
          refine GX_goto hC 40 dX1_clashesOf_36 (by decide) ?_
          exact GX_nm (oi h20) hJ16
        · skip
          have h21 := ifF q h19
          refine GX_iconst hC 0 dX1_clashesOf_39 rfl ?_
          exact GX_nm (oi h21) hJ16
      refine GX_ior hC dX1_clashesOf_40 ?_
      obtain ⟨bits22, e23, h24⟩ := ob h15
      refine GX_nm (oi e23) ?_
      refine GX_istore hC [some (.ref (gad Γ 36)), some (.ref (gad Γ land1)), some (.ref (gad Γ row2)), some (.int deed3), some (.int bits22), some (.int i10)] dX1_clashesOf_41 (by decide) rfl rfl ?_
      obtain ⟨i25, e26, h27⟩ := ob h24
      refine GX_iinc hC i25 [some (.ref (gad Γ 36)), some (.ref (gad Γ land1)), some (.ref (gad Γ row2)), some (.int deed3), some (.int bits22), some (.int i25)] dX1_clashesOf_43 rfl (oi e26) (by decide) rfl rfl ?_
      refine GX_goto hC 6 dX1_clashesOf_46 (by decide) ?_
      exact hI8 _ (oi h27).symm
    · skip
      have h28 := ifN q hx8
      exact GX.le (hJ8 _ (hO8 _ (oi h28).symm)) ⟨rfl, ⟨rfl, ⟨rfl, ⟨rfl, ⟨rfl, trivial⟩⟩⟩⟩⟩
  intro bits11 q29
  subst q29
  refine GX_iload hC dX1_clashesOf_49 rfl ?_
  exact GX_iretR hC hR dX1_clashesOf_51 (oi h7)
set_option maxRecDepth 100000 in
set_option maxHeartbeats 4000000 in
theorem C_DeedBook_isAsTold {l : Launch} {land1 : Nat} {row2 : Nat} {x3 : Int32} {m4 : MI} {r0 : Bool} (hp_land1 : isLand land1) (hp_row2 : isShelf row2) (hf : DeedBook_isAsTold land1 row2 x3 m4 = some r0) : Cn l yX1_isAsTold cX1_isAsTold 4 (some .boolean) 1 LAY (fun ad => [.ref (ad land1), .ref (ad row2), .int x3]) m4 (fun _ => some (.int (bI r0))) m4 := by
  refine Cn.of (fun ad => [some (.ref (ad land1)), some (.ref (ad row2)), some (.int x3), none]) (by decide +kernel) (fun _ => rfl) (fun _ => Nat.le_of_ble_eq_true rfl) (fun Γ hl hC hR hk => ?_)
  subst hl
  replace hC : CX Γ cX1_isAsTold RX1 LAY 1 4 := hC
  dsimp only [DeedBook_isAsTold] at hf
  refine GX_aload_n hC dX1_isAsTold_0 rfl ?_
  refine GX_iload_n hC dX1_isAsTold_1 rfl ?_
  refine GX_iconst hC 2 dX1_isAsTold_2 rfl ?_
  refine GX_iadd hC dX1_isAsTold_3 ?_
  obtain ⟨r5, e6, h7⟩ := ob hf
  refine GX_callV_i (st := []) hC (C_Shelf_at hp_row2 e6) okX8_at lkX1_32 (olShelf hp_row2) rfl rfl (Nat.le_of_ble_eq_true rfl) (Nat.le_of_ble_eq_true rfl) hk rfl (Nat.le_of_ble_eq_true rfl) dX1_isAsTold_4 ?_
  refine GX_istore_n hC [some (.ref (gad Γ land1)), some (.ref (gad Γ row2)), some (.int x3), some (.int r5)] dX1_isAsTold_7 (by decide) rfl rfl ?_
  obtain ⟨c8, e9, h10⟩ := ob h7
  suffices hJ11 : GX Γ LAY 0 0 [some (.ref (gad Γ land1)), some (.ref (gad Γ row2)), some (.int x3), some (.int r5)] [.int (bI c8)] m4 49 by
    have hc12 : true = c8 → GX Γ LAY 0 0 [some (.ref (gad Γ land1)), some (.ref (gad Γ row2)), some (.int x3), some (.int r5)] [] m4 44 := by
      intro q
      subst q
      refine GX_iconst hC (bI true) dX1_isAsTold_44 rfl ?_
      refine GX_goto hC 49 dX1_isAsTold_45 (by decide) ?_
      exact hJ11
    have hc13 : false = c8 → GX Γ LAY 0 0 [some (.ref (gad Γ land1)), some (.ref (gad Γ row2)), some (.int x3), some (.int r5)] [] m4 48 := by
      intro q
      subst q
      refine GX_iconst hC (bI false) dX1_isAsTold_48 rfl ?_
      exact hJ11
    refine GX_aload_n hC dX1_isAsTold_8 rfl ?_
    refine GX_aload_n hC dX1_isAsTold_9 rfl ?_
    refine GX_iload_n hC dX1_isAsTold_10 rfl ?_
    obtain ⟨r14, e15, h16⟩ := ob e9
    refine GX_callV_i (st := [.ref (gad Γ land1)]) hC (C_Shelf_at hp_row2 e15) okX8_at lkX1_32 (olShelf hp_row2) rfl rfl (Nat.le_of_ble_eq_true rfl) (Nat.le_of_ble_eq_true rfl) hk rfl (Nat.le_of_ble_eq_true rfl) dX1_isAsTold_11 ?_
    obtain ⟨b17, e18, h19⟩ := ob h16
    refine GX_callV_i (st := []) hC (C_Land_isPerson hp_land1 e18) okX2_isPerson lkX1_36 (olLand hp_land1) rfl rfl (Nat.le_of_ble_eq_true rfl) (Nat.le_of_ble_eq_true rfl) hk rfl (Nat.le_of_ble_eq_true rfl) dX1_isAsTold_14 ?_
    refine GX_ifb_eq hC 48 dX1_isAsTold_17 (by decide) (fun q => ?_) (fun q => ?_)
    · skip
      have h20 := ifT q h19
      refine GX_aload_n hC dX1_isAsTold_20 rfl ?_
      refine GX_aload_n hC dX1_isAsTold_21 rfl ?_
      refine GX_iload_n hC dX1_isAsTold_22 rfl ?_
      refine GX_iconst hC 1 dX1_isAsTold_23 rfl ?_
      refine GX_iadd hC dX1_isAsTold_24 ?_
      obtain ⟨r21, e22, h23⟩ := ob h20
      refine GX_callV_i (st := [.ref (gad Γ land1)]) hC (C_Shelf_at hp_row2 e22) okX8_at lkX1_32 (olShelf hp_row2) rfl rfl (Nat.le_of_ble_eq_true rfl) (Nat.le_of_ble_eq_true rfl) hk rfl (Nat.le_of_ble_eq_true rfl) dX1_isAsTold_25 ?_
      obtain ⟨b24, e25, h26⟩ := ob h23
      refine GX_callV_i (st := []) hC (C_Land_isField hp_land1 e25) okX2_isField lkX1_42 (olLand hp_land1) rfl rfl (Nat.le_of_ble_eq_true rfl) (Nat.le_of_ble_eq_true rfl) hk rfl (Nat.le_of_ble_eq_true rfl) dX1_isAsTold_28 ?_
      refine GX_ifb_eq hC 48 dX1_isAsTold_31 (by decide) (fun q => ?_) (fun q => ?_)
      · skip
        have h27 := ifT q h26
        refine GX_iload_n hC dX1_isAsTold_34 rfl ?_
        refine GX_if_lt_N hC 48 dX1_isAsTold_35 (by decide) (fun q => ?_) (fun q => ?_)
        · skip
          have h28 := ifP q h27
          refine GX_iload_n hC dX1_isAsTold_38 rfl ?_
          refine GX_bipush hC 9 dX1_isAsTold_39 rfl ?_
          refine GX_icmp_gt_N hC 48 dX1_isAsTold_41 (by decide) (fun q => ?_) (fun q => ?_)
          · skip
            exact hc12 (cdT q h28)
          · skip
            exact hc13 (cdF q h28)
        · skip
          have h29 := ifN q h27
          exact hc13 (oi h29)
      · skip
        have h30 := ifF q h26
        exact hc13 (oi h30)
    · skip
      have h31 := ifF q h19
      exact hc13 (oi h31)
  exact GX_zretR hC c8 hR dX1_isAsTold_49 (oi h10)
set_option maxRecDepth 100000 in
set_option maxHeartbeats 4000000 in
theorem C_DeedBook_write {l : Launch} {land1 : Nat} {row2 : Nat} {m3 : MI} {r0 : Bool} {mr : MI} (hp_land1 : isLand land1) (hp_row2 : isShelf row2) (hf : DeedBook_write land1 row2 m3 = some (r0, mr)) : Cn l yX1_write cX1_write 4 (some .boolean) 4 LAY (fun ad => .ref (ad 36) :: [.ref (ad land1), .ref (ad row2)]) m3 (fun _ => some (.int (bI r0))) mr := by
  refine Cn.of (fun ad => [some (.ref (ad 36)), some (.ref (ad land1)), some (.ref (ad row2)), none]) (by decide +kernel) (fun _ => rfl) (fun _ => Nat.le_of_ble_eq_true rfl) (fun Γ hl hC hR hk => ?_)
  subst hl
  replace hC : CX Γ cX1_write RX1 LAY 4 4 := hC
  dsimp only [DeedBook_write] at hf
  obtain ⟨c4, e5, h6⟩ := ob hf
  have hc7 : true = c4 → GX Γ LAY 0 0 [some (.ref (gad Γ 36)), some (.ref (gad Γ land1)), some (.ref (gad Γ row2)), none] [] m3 20 := by
    intro q
    have h8 := ifT q.symm h6
    refine GX_iconst hC (bI false) dX1_write_20 rfl ?_
    exact GX_zretW hC false hR dX1_write_21 (oi h8)
  have hc9 : false = c4 → GX Γ LAY 0 0 [some (.ref (gad Γ 36)), some (.ref (gad Γ land1)), some (.ref (gad Γ row2)), none] [] m3 22 := by
    intro q
    have h10 := ifF q.symm h6
    refine GX_aload_n hC dX1_write_22 rfl ?_
    refine GX_aload_n hC dX1_write_23 rfl ?_
    refine GX_getI hC fkX1_19 (olShelf hp_row2) rfl dX1_write_24 ?_
    refine GX_iconst hC 3 dX1_write_27 rfl ?_
    refine GX_idiv hC dX1_write_28 (by decide) ?_
    obtain ⟨m11, e12, h13⟩ := ob h10
    refine GX_stF hC e12 fkX1_9 ftX1_0 ol_36 rfl dX1_write_29 ?_
    refine GX_iconst hC 0 dX1_write_32 rfl ?_
    refine GX_istore_n hC [some (.ref (gad Γ 36)), some (.ref (gad Γ land1)), some (.ref (gad Γ row2)), some (.int 0)] dX1_write_33 (by decide) rfl rfl ?_
    obtain ⟨o14, e15, h16⟩ := ob h13
    have hR17 : ∀ res : Bool × MI, Sum.inr res = o14 → res = (r0, mr) := by
      intro res q
      subst q
      have h16 := seR h16
      exact (oi h16)
    suffices hJ17 : Sum.inl () = o14 → GX Γ LAY 0 0 [some (.ref (gad Γ 36)), some (.ref (gad Γ land1)), some (.ref (gad Γ row2)), none] [] m11 61 by
      refine lp_walk (P := fun s => GX Γ LAY 0 0 [some (.ref (gad Γ 36)), some (.ref (gad Γ land1)), some (.ref (gad Γ row2)), some (.int s)] [] m11 34) (fun i18 x hx17 hI17 hO17 => ?_) _ _ e15
      show GX Γ LAY 0 0 [some (.ref (gad Γ 36)), some (.ref (gad Γ land1)), some (.ref (gad Γ row2)), some (.int i18)] [] m11 34
      dsimp only [DeedBook_write_s1] at hx17
      refine GX_iload_n hC dX1_write_34 rfl ?_
      refine GX_aload_n hC dX1_write_35 rfl ?_
      refine GX_getI hC fkX1_9 ol_36 rfl dX1_write_36 ?_
      refine GX_icmp_ge_N hC 61 dX1_write_39 (by decide) (fun q => ?_) (fun q => ?_)
      · skip
        have h19 := ifP q hx17
        refine GX_aload_n hC dX1_write_42 rfl ?_
        refine GX_aload_n hC dX1_write_43 rfl ?_
        refine GX_iconst hC 3 dX1_write_44 rfl ?_
        refine GX_iload_n hC dX1_write_45 rfl ?_
        refine GX_imul hC dX1_write_46 ?_
        obtain ⟨b20, e21, h22⟩ := ob h19
        refine GX_callS_i (st := []) hC (C_DeedBook_isAsTold hp_land1 hp_row2 e21) okX1_isAsTold lkX1_24 rfl (Nat.le_of_ble_eq_true rfl) (Nat.le_of_ble_eq_true rfl) hk rfl (Nat.le_of_ble_eq_true rfl) dX1_write_47 ?_
        refine GX_ifb_ne hC 55 dX1_write_50 (by decide) (fun q => ?_) (fun q => ?_)
        · skip
          have h23 := ifT q h22
          obtain ⟨i24, e25, h26⟩ := ob h23
          refine GX_iinc hC i24 [some (.ref (gad Γ 36)), some (.ref (gad Γ land1)), some (.ref (gad Γ row2)), some (.int i24)] dX1_write_55 rfl (oi e25) (by decide) rfl rfl ?_
          refine GX_goto hC 34 dX1_write_58 (by decide) ?_
          exact hI17 _ (oi h26).symm
        · skip
          have h27 := ifF q h22
          refine GX_iconst hC (bI false) dX1_write_53 rfl ?_
          exact GX_zretW hC false hR dX1_write_54 (hR17 _ (hO17 _ (oi h27).symm))
      · skip
        have h28 := ifN q hx17
        exact GX.le (hJ17 (hO17 _ (oi h28).symm)) ⟨rfl, ⟨rfl, ⟨rfl, trivial⟩⟩⟩
    intro q29
    subst q29
    have h16 := seL h16
    refine GX_iconst hC 0 dX1_write_61 rfl ?_
    refine GX_istore_n hC [some (.ref (gad Γ 36)), some (.ref (gad Γ land1)), some (.ref (gad Γ row2)), some (.int 0)] dX1_write_62 (by decide) rfl rfl ?_
    obtain ⟨o30, e31, h32⟩ := ob h16
    suffices hJ33 : ∀ (m36 : MI), m36 = o30 → GX Γ LAY 0 0 [some (.ref (gad Γ 36)), some (.ref (gad Γ land1)), some (.ref (gad Γ row2)), none] [] m36 99 by
      refine lp_walk (P := fun s => GX Γ LAY 0 0 [some (.ref (gad Γ 36)), some (.ref (gad Γ land1)), some (.ref (gad Γ row2)), some (.int s.1)] [] s.2 63) (fun s x hx33 hI33 hO33 => ?_) _ _ e31
      obtain ⟨i34, m35⟩ := s
      show GX Γ LAY 0 0 [some (.ref (gad Γ 36)), some (.ref (gad Γ land1)), some (.ref (gad Γ row2)), some (.int i34)] [] m35 63
      dsimp only [DeedBook_write_s2] at hx33
      obtain ⟨c37, e38, h39⟩ := ob hx33
      have hc40 : true = c37 → GX Γ LAY 0 0 [some (.ref (gad Γ 36)), some (.ref (gad Γ land1)), some (.ref (gad Γ row2)), some (.int i34)] [] m35 80 := by
        intro q
        have h41 := ifT q.symm h39
        refine GX_aload_n hC dX1_write_80 rfl ?_
        refine GX_getR hC fkX1_15 ol_36 rfl dX1_write_81 ?_
        refine GX_iload_n hC dX1_write_84 rfl ?_
        refine GX_aload_n hC dX1_write_85 rfl ?_
        refine GX_aload_n hC dX1_write_86 rfl ?_
        refine GX_aload_n hC dX1_write_87 rfl ?_
        refine GX_iload_n hC dX1_write_88 rfl ?_
        obtain ⟨r42, e43, h44⟩ := ob h41
        refine GX_callV_i (st := [.int i34, .ref (gad Γ 37)]) hC (C_DeedBook_clashesOf hp_land1 hp_row2 e43) okX1_clashesOf lkX1_28 ol_36 rfl rfl (Nat.le_of_ble_eq_true rfl) (Nat.le_of_ble_eq_true rfl) hk rfl (Nat.le_of_ble_eq_true rfl) dX1_write_89 ?_
        obtain ⟨m45, e46, h47⟩ := ob h44
        refine GX_stA hC e46 al_37 dX1_write_92 ?_
        obtain ⟨i48, e49, h50⟩ := ob h47
        refine GX_iinc hC i48 [some (.ref (gad Γ 36)), some (.ref (gad Γ land1)), some (.ref (gad Γ row2)), some (.int i48)] dX1_write_93 rfl (oi e49) (by decide) rfl rfl ?_
        refine GX_goto hC 63 dX1_write_96 (by decide) ?_
        exact hI33 _ (oi h50).symm
      have hc51 : false = c37 → GX Γ LAY 0 0 [some (.ref (gad Γ 36)), some (.ref (gad Γ land1)), some (.ref (gad Γ row2)), some (.int i34)] [] m35 99 := by
        intro q
        have h52 := ifF q.symm h39
        exact GX.le (hJ33 _ (hO33 _ (oi h52).symm)) ⟨rfl, ⟨rfl, ⟨rfl, trivial⟩⟩⟩
      refine GX_iload_n hC dX1_write_63 rfl ?_
      refine GX_aload_n hC dX1_write_64 rfl ?_
      refine GX_getI hC fkX1_9 ol_36 rfl dX1_write_65 ?_
      refine GX_icmp_ge_N hC 99 dX1_write_68 (by decide) (fun q => ?_) (fun q => ?_)
      · skip
        have h53 := ifP q e38
        refine GX_iload_n hC dX1_write_71 rfl ?_
        refine GX_aload_n hC dX1_write_72 rfl ?_
        refine GX_getR hC fkX1_15 ol_36 rfl dX1_write_73 ?_
        refine GX_alen hC 8 al_37 (by decide) rfl dX1_write_76 ?_
        refine GX_icmp_ge_N hC 99 dX1_write_77 (by decide) (fun q => ?_) (fun q => ?_)
        · skip
          exact hc40 (cdT q h53)
        · skip
          exact hc51 (cdF q h53)
      · skip
        have h54 := ifN q e38
        exact hc51 (oi h54)
    intro m36 q55
    subst q55
    refine GX_iconst hC (bI true) dX1_write_99 rfl ?_
    exact GX_zretW hC true hR dX1_write_100 (oi h32)
  refine GX_aload_n hC dX1_write_0 rfl ?_
  refine GX_getI hC fkX1_19 (olShelf hp_row2) rfl dX1_write_1 ?_
  refine GX_iconst hC 3 dX1_write_4 rfl ?_
  refine GX_irem hC dX1_write_5 (by decide) ?_
  refine GX_if_ne_P hC 20 dX1_write_6 (by decide) (fun q => ?_) (fun q => ?_)
  · skip
    have h57 := ifP q e5
    exact hc7 (oi h57)
  · skip
    have h58 := ifN q e5
    refine GX_aload_n hC dX1_write_9 rfl ?_
    refine GX_getI hC fkX1_19 (olShelf hp_row2) rfl dX1_write_10 ?_
    refine GX_iconst hC 3 dX1_write_13 rfl ?_
    refine GX_idiv hC dX1_write_14 (by decide) ?_
    refine GX_bipush hC 8 dX1_write_15 rfl ?_
    refine GX_icmp_le_N hC 22 dX1_write_17 (by decide) (fun q => ?_) (fun q => ?_)
    · skip
      exact hc7 (cdT q h58)
    · skip
      exact hc9 (cdF q h58)
