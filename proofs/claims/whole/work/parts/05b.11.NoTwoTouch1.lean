set_option maxRecDepth 100000 in
set_option maxHeartbeats 4000000 in
theorem C_N_keep {l : Launch} {d1 : Int32} {what2 : Int32} {k3 : Int32} {wfog4 : Int32} {m5 : MI} {r0 : Int32} {mr : MI}  (hf : N_keep d1 what2 k3 wfog4 m5 = some (r0, mr)) : Cn l yX9_keep cX9_keep 6 (some .int) 1 LAY (fun ad => .ref (ad 0) :: [.int d1, .int what2, .int k3, .int wfog4]) m5 (fun _ => some (.int r0)) mr := by
  refine Cn.of (fun ad => [some (.ref (ad 0)), some (.int d1), some (.int what2), some (.int k3), some (.int wfog4), none]) (by decide +kernel) (fun _ => rfl) (fun _ => Nat.le_of_ble_eq_true rfl) (fun Γ hl hC hR hk => ?_)
  subst hl
  replace hC : CX Γ cX9_keep RX9 LAY 1 6 := hC
  dsimp only [N_keep] at hf
  refine GX_aload_n hC dX9_keep_0 rfl ?_
  refine GX_iload_n hC dX9_keep_1 rfl ?_
  rcases hs6 : N_shelfAt d1 with _ | s7
  · skip
    have h8 := onNn hs6 hf
    refine GX_callV_n (st := []) hC (C_N_shelfAt_n hs6) okX9_shelfAt lkX9_75 ol_0 rfl rfl (Nat.le_of_ble_eq_true rfl) (Nat.le_of_ble_eq_true rfl) hk rfl (Nat.le_of_ble_eq_true rfl) dX9_keep_2 ?_
    refine GX_astoreN hC [some (.ref (gad Γ 0)), some (.int d1), some (.int what2), some (.int k3), some (.int wfog4), some (.null)] dX9_keep_5 (by decide) rfl rfl ?_
    refine GX_aloadN hC dX9_keep_7 rfl ?_
    refine GX_ifnullN hC 21 dX9_keep_9 (by decide) ?_
    refine GX_iconst hC (-1) dX9_keep_21 rfl ?_
    exact GX_iretW hC hR dX9_keep_22 (oi h8)
  · skip
    have h9 := onNs hs6 hf
    refine GX_callV_r (st := []) hC (C_N_shelfAt_s hs6) okX9_shelfAt lkX9_75 ol_0 rfl rfl (Nat.le_of_ble_eq_true rfl) (Nat.le_of_ble_eq_true rfl) hk rfl (Nat.le_of_ble_eq_true rfl) dX9_keep_2 ?_
    have hsh10 := isShelf_at hs6
    refine GX_astore hC [some (.ref (gad Γ 0)), some (.int d1), some (.int what2), some (.int k3), some (.int wfog4), some (.ref (gad Γ s7))] dX9_keep_5 (by decide) rfl rfl ?_
    obtain ⟨c11, e12, h13⟩ := ob h9
    have hc14 : true = c11 → GX Γ LAY 0 0 [some (.ref (gad Γ 0)), some (.int d1), some (.int what2), some (.int k3), some (.int wfog4), some (.ref (gad Γ s7))] [] m5 21 := by
      intro q
      have h15 := ifT q.symm h13
      refine GX_iconst hC (-1) dX9_keep_21 rfl ?_
      exact GX_iretW hC hR dX9_keep_22 (oi h15)
    have hc16 : false = c11 → GX Γ LAY 0 0 [some (.ref (gad Γ 0)), some (.int d1), some (.int what2), some (.int k3), some (.int wfog4), some (.ref (gad Γ s7))] [] m5 23 := by
      intro q
      have h17 := ifF q.symm h13
      refine GX_iload_n hC dX9_keep_23 rfl ?_
      refine GX_if_ne_N hC 35 dX9_keep_24 (by decide) (fun q => ?_) (fun q => ?_)
      · skip
        have h18 := ifP q h17
        refine GX_aload hC dX9_keep_27 rfl ?_
        refine GX_iconst hC 0 dX9_keep_29 rfl ?_
        obtain ⟨m19, e20, h21⟩ := ob h18
        refine GX_stF hC e20 fkX9_270 ftX8_0 (olShelf hsh10) rfl dX9_keep_30 ?_
        refine GX_iconst hC 0 dX9_keep_33 rfl ?_
        exact GX_iretW hC hR dX9_keep_34 (oi h21)
      · skip
        have h22 := ifN q h17
        obtain ⟨c23, e24, h25⟩ := ob h22
        have hc26 : true = c23 → GX Γ LAY 0 0 [some (.ref (gad Γ 0)), some (.int d1), some (.int what2), some (.int k3), some (.int wfog4), some (.ref (gad Γ s7))] [] m5 58 := by
          intro q
          have h27 := ifT q.symm h25
          refine GX_iconst hC (-1) dX9_keep_58 rfl ?_
          exact GX_iretW hC hR dX9_keep_59 (oi h27)
        have hc28 : false = c23 → GX Γ LAY 0 0 [some (.ref (gad Γ 0)), some (.int d1), some (.int what2), some (.int k3), some (.int wfog4), some (.ref (gad Γ s7))] [] m5 60 := by
          intro q
          have h29 := ifF q.symm h25
          refine GX_aload hC dX9_keep_60 rfl ?_
          refine GX_iconst hC 1 dX9_keep_62 rfl ?_
          obtain ⟨m30, e31, h32⟩ := ob h29
          refine GX_stF hC e31 fkX9_270 ftX8_0 (olShelf hsh10) rfl dX9_keep_63 ?_
          refine GX_aload hC dX9_keep_66 rfl ?_
          refine GX_getR hC fkX9_164 (olShelf hsh10) rfl dX9_keep_68 ?_
          refine GX_iload_n hC dX9_keep_71 rfl ?_
          refine GX_iload hC dX9_keep_72 rfl ?_
          obtain ⟨m33, e34, h35⟩ := ob h32
          refine GX_callV_v (st := []) hC (C_Move_become (isMove_of hsh10) e34) okX4_become lkX9_273 (olMove (isMove_of hsh10)) rfl rfl (Nat.le_of_ble_eq_true rfl) (Nat.le_of_ble_eq_true rfl) hk rfl (Nat.le_of_ble_eq_true rfl) dX9_keep_74 ?_
          refine GX_iconst hC 0 dX9_keep_77 rfl ?_
          exact GX_iretW hC hR dX9_keep_78 (oi h35)
        refine GX_iload_n hC dX9_keep_35 rfl ?_
        refine GX_if_lt_P hC 58 dX9_keep_36 (by decide) (fun q => ?_) (fun q => ?_)
        · skip
          have h36 := ifP q e24
          exact hc26 (oi h36)
        · skip
          have h37 := ifN q e24
          refine GX_iload_n hC dX9_keep_39 rfl ?_
          refine GX_bipush hC 7 dX9_keep_40 rfl ?_
          refine GX_icmp_gt_P hC 58 dX9_keep_42 (by decide) (fun q => ?_) (fun q => ?_)
          · skip
            have h38 := ifP q h37
            exact hc26 (oi h38)
          · skip
            have h39 := ifN q h37
            refine GX_iload hC dX9_keep_45 rfl ?_
            refine GX_if_lt_P hC 58 dX9_keep_47 (by decide) (fun q => ?_) (fun q => ?_)
            · skip
              have h40 := ifP q h39
              exact hc26 (oi h40)
            · skip
              have h41 := ifN q h39
              refine GX_iload hC dX9_keep_50 rfl ?_
              refine GX_sipush hC 9999 dX9_keep_52 rfl ?_
              refine GX_icmp_le_N hC 60 dX9_keep_55 (by decide) (fun q => ?_) (fun q => ?_)
              · skip
                exact hc26 (cdT q h41)
              · skip
                exact hc28 (cdF q h41)
    refine GX_aload hC dX9_keep_7 rfl ?_
    refine GX_ifnull hC dX9_keep_9 ?_
    refine GX_iload_n hC dX9_keep_12 rfl ?_
    refine GX_if_lt_P hC 21 dX9_keep_13 (by decide) (fun q => ?_) (fun q => ?_)
    · skip
      have h42 := ifP q e12
      exact hc14 (oi h42)
    · skip
      have h43 := ifN q e12
      refine GX_iload_n hC dX9_keep_16 rfl ?_
      refine GX_iconst hC 1 dX9_keep_17 rfl ?_
      refine GX_icmp_le_N hC 23 dX9_keep_18 (by decide) (fun q => ?_) (fun q => ?_)
      · skip
        exact hc14 (cdT q h43)
      · skip
        exact hc16 (cdF q h43)
set_option maxRecDepth 100000 in
set_option maxHeartbeats 4000000 in
theorem C_N_row {l : Launch} {d1 : Int32} {sort2 : Int32} {n3 : Int32} {m4 : MI} {r0 : Int32} {mr : MI}  (hf : N_row d1 sort2 n3 m4 = some (r0, mr)) : Cn l yX9_row cX9_row 5 (some .int) 2 LAY (fun ad => .ref (ad 0) :: [.int d1, .int sort2, .int n3]) m4 (fun _ => some (.int r0)) mr := by
  refine Cn.of (fun ad => [some (.ref (ad 0)), some (.int d1), some (.int sort2), some (.int n3), none]) (by decide +kernel) (fun _ => rfl) (fun _ => Nat.le_of_ble_eq_true rfl) (fun Γ hl hC hR hk => ?_)
  subst hl
  replace hC : CX Γ cX9_row RX9 LAY 2 5 := hC
  dsimp only [N_row] at hf
  refine GX_aload_n hC dX9_row_0 rfl ?_
  refine GX_iload_n hC dX9_row_1 rfl ?_
  rcases hs5 : N_shelfAt d1 with _ | s6
  · skip
    have h7 := onNn hs5 hf
    refine GX_callV_n (st := []) hC (C_N_shelfAt_n hs5) okX9_shelfAt lkX9_75 ol_0 rfl rfl (Nat.le_of_ble_eq_true rfl) (Nat.le_of_ble_eq_true rfl) hk rfl (Nat.le_of_ble_eq_true rfl) dX9_row_2 ?_
    refine GX_astoreN hC [some (.ref (gad Γ 0)), some (.int d1), some (.int sort2), some (.int n3), some (.null)] dX9_row_5 (by decide) rfl rfl ?_
    refine GX_aloadN hC dX9_row_7 rfl ?_
    refine GX_ifnullN hC 27 dX9_row_9 (by decide) ?_
    refine GX_iconst hC (-1) dX9_row_27 rfl ?_
    exact GX_iretW hC hR dX9_row_28 (oi h7)
  · skip
    have h8 := onNs hs5 hf
    refine GX_callV_r (st := []) hC (C_N_shelfAt_s hs5) okX9_shelfAt lkX9_75 ol_0 rfl rfl (Nat.le_of_ble_eq_true rfl) (Nat.le_of_ble_eq_true rfl) hk rfl (Nat.le_of_ble_eq_true rfl) dX9_row_2 ?_
    have hsh9 := isShelf_at hs5
    refine GX_astore hC [some (.ref (gad Γ 0)), some (.int d1), some (.int sort2), some (.int n3), some (.ref (gad Γ s6))] dX9_row_5 (by decide) rfl rfl ?_
    obtain ⟨c10, e11, h12⟩ := ob h8
    have hc13 : true = c10 → GX Γ LAY 0 0 [some (.ref (gad Γ 0)), some (.int d1), some (.int sort2), some (.int n3), some (.ref (gad Γ s6))] [] m4 27 := by
      intro q
      have h14 := ifT q.symm h12
      refine GX_iconst hC (-1) dX9_row_27 rfl ?_
      exact GX_iretW hC hR dX9_row_28 (oi h14)
    have hc15 : false = c10 → GX Γ LAY 0 0 [some (.ref (gad Γ 0)), some (.int d1), some (.int sort2), some (.int n3), some (.ref (gad Γ s6))] [] m4 29 := by
      intro q
      have h16 := ifF q.symm h12
      refine GX_iload_n hC dX9_row_29 rfl ?_
      refine GX_if_ge_N hC 36 dX9_row_30 (by decide) (fun q => ?_) (fun q => ?_)
      · skip
        have h17 := ifP q h16
        refine GX_bipush hC (-14) dX9_row_33 rfl ?_
        exact GX_iretW hC hR dX9_row_35 (oi h17)
      · skip
        have h18 := ifN q h16
        refine GX_aload hC dX9_row_36 rfl ?_
        refine GX_iload_n hC dX9_row_38 rfl ?_
        refine GX_iload_n hC dX9_row_39 rfl ?_
        obtain ⟨m19, e20, h21⟩ := ob h18
        refine GX_callV_v (st := []) hC (C_Shelf_becomeRow hsh9 e20) okX8_becomeRow lkX9_278 (olShelf hsh9) rfl rfl (Nat.le_of_ble_eq_true rfl) (Nat.le_of_ble_eq_true rfl) hk rfl (Nat.le_of_ble_eq_true rfl) dX9_row_40 ?_
        refine GX_iconst hC 0 dX9_row_43 rfl ?_
        exact GX_iretW hC hR dX9_row_44 (oi h21)
    refine GX_aload hC dX9_row_7 rfl ?_
    refine GX_ifnull hC dX9_row_9 ?_
    refine GX_iload_n hC dX9_row_12 rfl ?_
    refine GX_if_lt_P hC 27 dX9_row_13 (by decide) (fun q => ?_) (fun q => ?_)
    · skip
      have h22 := ifP q e11
      exact hc13 (oi h22)
    · skip
      have h23 := ifN q e11
      refine GX_iload_n hC dX9_row_16 rfl ?_
      refine GX_iconst hC 2 dX9_row_17 rfl ?_
      refine GX_icmp_gt_P hC 27 dX9_row_18 (by decide) (fun q => ?_) (fun q => ?_)
      · skip
        have h24 := ifP q h23
        exact hc13 (oi h24)
      · skip
        have h25 := ifN q h23
        refine GX_iload_n hC dX9_row_21 rfl ?_
        refine GX_bipush hC 100 dX9_row_22 rfl ?_
        refine GX_icmp_le_N hC 29 dX9_row_24 (by decide) (fun q => ?_) (fun q => ?_)
        · skip
          exact hc13 (cdT q h25)
        · skip
          exact hc15 (cdF q h25)
set_option maxRecDepth 100000 in
set_option maxHeartbeats 4000000 in
theorem C_N_put {l : Launch} {d1 : Int32} {i2 : Int32} {v3 : Int32} {m4 : MI} {r0 : Int32} {mr : MI}  (hf : N_put d1 i2 v3 m4 = some (r0, mr)) : Cn l yX9_put cX9_put 6 (some .int) 2 LAY (fun ad => .ref (ad 0) :: [.int d1, .int i2, .int v3]) m4 (fun _ => some (.int r0)) mr := by
  refine Cn.of (fun ad => [some (.ref (ad 0)), some (.int d1), some (.int i2), some (.int v3), none, none]) (by decide +kernel) (fun _ => rfl) (fun _ => Nat.le_of_ble_eq_true rfl) (fun Γ hl hC hR hk => ?_)
  subst hl
  replace hC : CX Γ cX9_put RX9 LAY 2 6 := hC
  dsimp only [N_put] at hf
  refine GX_aload_n hC dX9_put_0 rfl ?_
  refine GX_iload_n hC dX9_put_1 rfl ?_
  rcases hs5 : N_shelfAt d1 with _ | s6
  · skip
    have h7 := onNn hs5 hf
    refine GX_callV_n (st := []) hC (C_N_shelfAt_n hs5) okX9_shelfAt lkX9_75 ol_0 rfl rfl (Nat.le_of_ble_eq_true rfl) (Nat.le_of_ble_eq_true rfl) hk rfl (Nat.le_of_ble_eq_true rfl) dX9_put_2 ?_
    refine GX_astoreN hC [some (.ref (gad Γ 0)), some (.int d1), some (.int i2), some (.int v3), some (.null), none] dX9_put_5 (by decide) rfl rfl ?_
    refine GX_aloadN hC dX9_put_7 rfl ?_
    refine GX_ifnonnullN hC dX9_put_9 ?_
    refine GX_iconst hC (-1) dX9_put_12 rfl ?_
    exact GX_iretW hC hR dX9_put_13 (oi h7)
  · skip
    have h8 := onNs hs5 hf
    refine GX_callV_r (st := []) hC (C_N_shelfAt_s hs5) okX9_shelfAt lkX9_75 ol_0 rfl rfl (Nat.le_of_ble_eq_true rfl) (Nat.le_of_ble_eq_true rfl) hk rfl (Nat.le_of_ble_eq_true rfl) dX9_put_2 ?_
    have hsh9 := isShelf_at hs5
    refine GX_astore hC [some (.ref (gad Γ 0)), some (.int d1), some (.int i2), some (.int v3), some (.ref (gad Γ s6)), none] dX9_put_5 (by decide) rfl rfl ?_
    refine GX_aload hC dX9_put_7 rfl ?_
    refine GX_ifnonnull hC 14 dX9_put_9 (by decide) ?_
    refine GX_aload hC dX9_put_14 rfl ?_
    refine GX_iconst hC 2 dX9_put_16 rfl ?_
    obtain ⟨r10, e11, h12⟩ := ob h8
    refine GX_callV_i (st := []) hC (C_Shelf_refusalUnless hsh9 e11) okX8_refusalUnless lkX9_281 (olShelf hsh9) rfl rfl (Nat.le_of_ble_eq_true rfl) (Nat.le_of_ble_eq_true rfl) hk rfl (Nat.le_of_ble_eq_true rfl) dX9_put_17 ?_
    refine GX_istore hC [some (.ref (gad Γ 0)), some (.int d1), some (.int i2), some (.int v3), some (.ref (gad Γ s6)), some (.int r10)] dX9_put_20 (by decide) rfl rfl ?_
    refine GX_iload hC dX9_put_22 rfl ?_
    refine GX_if_eq_N hC 30 dX9_put_24 (by decide) (fun q => ?_) (fun q => ?_)
    · skip
      have h13 := ifP q h12
      refine GX_iload hC dX9_put_27 rfl ?_
      exact GX_iretW hC hR dX9_put_29 (oi h13)
    · skip
      have h14 := ifN q h12
      obtain ⟨⟨x15, m16⟩, e17, h18⟩ := ob h14
      suffices hJ19 : GX Γ LAY 0 0 [some (.ref (gad Γ 0)), some (.int d1), some (.int i2), some (.int v3), some (.ref (gad Γ s6)), some (.int r10)] [.int x15] m16 46 by
        refine GX_aload hC dX9_put_30 rfl ?_
        refine GX_iload_n hC dX9_put_32 rfl ?_
        refine GX_iload_n hC dX9_put_33 rfl ?_
        obtain ⟨⟨b20, m21⟩, e22, h23⟩ := ob e17
        refine GX_callV_i (st := []) hC (C_Shelf_set hsh9 e22) okX8_set lkX9_284 (olShelf hsh9) rfl rfl (Nat.le_of_ble_eq_true rfl) (Nat.le_of_ble_eq_true rfl) hk rfl (Nat.le_of_ble_eq_true rfl) dX9_put_34 ?_
        refine GX_ifb_eq hC 44 dX9_put_37 (by decide) (fun q => ?_) (fun q => ?_)
        · skip
          have h24 := ifT q h23
          refine GX_iconst hC 0 dX9_put_40 rfl ?_
          refine GX_goto hC 46 dX9_put_41 (by decide) ?_
          cases oi h24
          exact hJ19
        · skip
          have h26 := ifF q h23
          refine GX_bipush hC (-13) dX9_put_44 rfl ?_
          cases oi h26
          exact hJ19
      exact GX_iretW hC hR dX9_put_46 (oi h18)
set_option maxRecDepth 100000 in
set_option maxHeartbeats 4000000 in
theorem C_N_copy {l : Launch} {d1 : Int32} {i2 : Int32} {e3 : Int32} {j4 : Int32} {n5 : Int32} {m6 : MI} {r0 : Int32} {mr : MI}  (hf : N_copy d1 i2 e3 j4 n5 m6 = some (r0, mr)) : Cn l yX9_copy cX9_copy 8 (some .int) 1 LAY (fun ad => .ref (ad 0) :: [.int d1, .int i2, .int e3, .int j4, .int n5]) m6 (fun _ => some (.int r0)) mr := by
  refine Cn.of (fun ad => [some (.ref (ad 0)), some (.int d1), some (.int i2), some (.int e3), some (.int j4), some (.int n5), none, none]) (by decide +kernel) (fun _ => rfl) (fun _ => Nat.le_of_ble_eq_true rfl) (fun Γ hl hC hR hk => ?_)
  subst hl
  replace hC : CX Γ cX9_copy RX9 LAY 1 8 := hC
  dsimp only [N_copy] at hf
  refine GX_aload_n hC dX9_copy_0 rfl ?_
  refine GX_iload_n hC dX9_copy_1 rfl ?_
  rcases hs7 : N_shelfAt d1 with _ | s8
  · skip
    have h9 := onNn hs7 hf
    refine GX_callV_n (st := []) hC (C_N_shelfAt_n hs7) okX9_shelfAt lkX9_75 ol_0 rfl rfl (Nat.le_of_ble_eq_true rfl) (Nat.le_of_ble_eq_true rfl) hk rfl (Nat.le_of_ble_eq_true rfl) dX9_copy_2 ?_
    refine GX_astoreN hC [some (.ref (gad Γ 0)), some (.int d1), some (.int i2), some (.int e3), some (.int j4), some (.int n5), some (.null), none] dX9_copy_5 (by decide) rfl rfl ?_
    refine GX_aload_n hC dX9_copy_7 rfl ?_
    refine GX_iload_n hC dX9_copy_8 rfl ?_
    rcases hs10 : N_shelfAt e3 with _ | s11
    · skip
      have h12 := onNn hs10 h9
      refine GX_callV_n (st := []) hC (C_N_shelfAt_n hs10) okX9_shelfAt lkX9_75 ol_0 rfl rfl (Nat.le_of_ble_eq_true rfl) (Nat.le_of_ble_eq_true rfl) hk rfl (Nat.le_of_ble_eq_true rfl) dX9_copy_9 ?_
      refine GX_astoreN hC [some (.ref (gad Γ 0)), some (.int d1), some (.int i2), some (.int e3), some (.int j4), some (.int n5), some (.null), some (.null)] dX9_copy_12 (by decide) rfl rfl ?_
      refine GX_aloadN hC dX9_copy_14 rfl ?_
      refine GX_ifnullN hC 24 dX9_copy_16 (by decide) ?_
      refine GX_iconst hC (-1) dX9_copy_24 rfl ?_
      exact GX_iretW hC hR dX9_copy_25 (oi h12)
    · skip
      have h13 := onNs hs10 h9
      refine GX_callV_r (st := []) hC (C_N_shelfAt_s hs10) okX9_shelfAt lkX9_75 ol_0 rfl rfl (Nat.le_of_ble_eq_true rfl) (Nat.le_of_ble_eq_true rfl) hk rfl (Nat.le_of_ble_eq_true rfl) dX9_copy_9 ?_
      have hsh14 := isShelf_at hs10
      refine GX_astore hC [some (.ref (gad Γ 0)), some (.int d1), some (.int i2), some (.int e3), some (.int j4), some (.int n5), some (.null), some (.ref (gad Γ s11))] dX9_copy_12 (by decide) rfl rfl ?_
      refine GX_aloadN hC dX9_copy_14 rfl ?_
      refine GX_ifnullN hC 24 dX9_copy_16 (by decide) ?_
      refine GX_iconst hC (-1) dX9_copy_24 rfl ?_
      exact GX_iretW hC hR dX9_copy_25 (oi h13)
  · skip
    have h15 := onNs hs7 hf
    refine GX_callV_r (st := []) hC (C_N_shelfAt_s hs7) okX9_shelfAt lkX9_75 ol_0 rfl rfl (Nat.le_of_ble_eq_true rfl) (Nat.le_of_ble_eq_true rfl) hk rfl (Nat.le_of_ble_eq_true rfl) dX9_copy_2 ?_
    have hsh16 := isShelf_at hs7
    refine GX_astore hC [some (.ref (gad Γ 0)), some (.int d1), some (.int i2), some (.int e3), some (.int j4), some (.int n5), some (.ref (gad Γ s8)), none] dX9_copy_5 (by decide) rfl rfl ?_
    refine GX_aload_n hC dX9_copy_7 rfl ?_
    refine GX_iload_n hC dX9_copy_8 rfl ?_
    rcases hs17 : N_shelfAt e3 with _ | s18
    · skip
      have h19 := onNn hs17 h15
      refine GX_callV_n (st := []) hC (C_N_shelfAt_n hs17) okX9_shelfAt lkX9_75 ol_0 rfl rfl (Nat.le_of_ble_eq_true rfl) (Nat.le_of_ble_eq_true rfl) hk rfl (Nat.le_of_ble_eq_true rfl) dX9_copy_9 ?_
      refine GX_astoreN hC [some (.ref (gad Γ 0)), some (.int d1), some (.int i2), some (.int e3), some (.int j4), some (.int n5), some (.ref (gad Γ s8)), some (.null)] dX9_copy_12 (by decide) rfl rfl ?_
      refine GX_aload hC dX9_copy_14 rfl ?_
      refine GX_ifnull hC dX9_copy_16 ?_
      refine GX_aloadN hC dX9_copy_19 rfl ?_
      refine GX_ifnonnullN hC dX9_copy_21 ?_
      refine GX_iconst hC (-1) dX9_copy_24 rfl ?_
      exact GX_iretW hC hR dX9_copy_25 (oi h19)
    · skip
      have h20 := onNs hs17 h15
      refine GX_callV_r (st := []) hC (C_N_shelfAt_s hs17) okX9_shelfAt lkX9_75 ol_0 rfl rfl (Nat.le_of_ble_eq_true rfl) (Nat.le_of_ble_eq_true rfl) hk rfl (Nat.le_of_ble_eq_true rfl) dX9_copy_9 ?_
      have hsh21 := isShelf_at hs17
      refine GX_astore hC [some (.ref (gad Γ 0)), some (.int d1), some (.int i2), some (.int e3), some (.int j4), some (.int n5), some (.ref (gad Γ s8)), some (.ref (gad Γ s18))] dX9_copy_12 (by decide) rfl rfl ?_
      refine GX_aload hC dX9_copy_14 rfl ?_
      refine GX_ifnull hC dX9_copy_16 ?_
      refine GX_aload hC dX9_copy_19 rfl ?_
      refine GX_ifnonnull hC 26 dX9_copy_21 (by decide) ?_
      obtain ⟨c22, e23, h24⟩ := ob h20
      have hc25 : true = c22 → GX Γ LAY 0 0 [some (.ref (gad Γ 0)), some (.int d1), some (.int i2), some (.int e3), some (.int j4), some (.int n5), some (.ref (gad Γ s8)), some (.ref (gad Γ s18))] [] m6 42 := by
        intro q
        have h26 := ifT q.symm h24
        refine GX_bipush hC (-11) dX9_copy_42 rfl ?_
        exact GX_iretW hC hR dX9_copy_44 (oi h26)
      have hc27 : false = c22 → GX Γ LAY 0 0 [some (.ref (gad Γ 0)), some (.int d1), some (.int i2), some (.int e3), some (.int j4), some (.int n5), some (.ref (gad Γ s8)), some (.ref (gad Γ s18))] [] m6 45 := by
        intro q
        have h28 := ifF q.symm h24
        obtain ⟨c29, e30, h31⟩ := ob h28
        have hc32 : true = c29 → GX Γ LAY 0 0 [some (.ref (gad Γ 0)), some (.int d1), some (.int i2), some (.int e3), some (.int j4), some (.int n5), some (.ref (gad Γ s8)), some (.ref (gad Γ s18))] [] m6 76 := by
          intro q
          have h33 := ifT q.symm h31
          refine GX_bipush hC (-12) dX9_copy_76 rfl ?_
          exact GX_iretW hC hR dX9_copy_78 (oi h33)
        have hc34 : false = c29 → GX Γ LAY 0 0 [some (.ref (gad Γ 0)), some (.int d1), some (.int i2), some (.int e3), some (.int j4), some (.int n5), some (.ref (gad Γ s8)), some (.ref (gad Γ s18))] [] m6 79 := by
          intro q
          have h35 := ifF q.symm h31
          obtain ⟨c36, e37, h38⟩ := ob h35
          have hc39 : true = c36 → GX Γ LAY 0 0 [some (.ref (gad Γ 0)), some (.int d1), some (.int i2), some (.int e3), some (.int j4), some (.int n5), some (.ref (gad Γ s8)), some (.ref (gad Γ s18))] [] m6 102 := by
            intro q
            have h40 := ifT q.symm h38
            refine GX_bipush hC (-13) dX9_copy_102 rfl ?_
            exact GX_iretW hC hR dX9_copy_104 (oi h40)
          have hc41 : false = c36 → GX Γ LAY 0 0 [some (.ref (gad Γ 0)), some (.int d1), some (.int i2), some (.int e3), some (.int j4), some (.int n5), some (.ref (gad Γ s8)), some (.ref (gad Γ s18))] [] m6 105 := by
            intro q
            have h42 := ifF q.symm h38
            refine GX_aload hC dX9_copy_105 rfl ?_
            refine GX_getR hC fkX9_310 (olShelf hsh16) rfl dX9_copy_107 ?_
            refine GX_iload_n hC dX9_copy_110 rfl ?_
            refine GX_aload hC dX9_copy_111 rfl ?_
            refine GX_getR hC fkX9_310 (olShelf hsh21) rfl dX9_copy_113 ?_
            refine GX_iload hC dX9_copy_116 rfl ?_
            refine GX_iload hC dX9_copy_118 rfl ?_
            obtain ⟨m43, e44, h45⟩ := ob h42
            refine GX_acp hC e44 acX9_314 (Nat.le_of_ble_eq_true rfl) (alShelf2 hsh16) (alShelf2 hsh21) (Nat.le_of_ble_eq_true rfl) dX9_copy_120 ?_
            refine GX_iload hC dX9_copy_123 rfl ?_
            exact GX_iretW hC hR dX9_copy_125 (oi h45)
          refine GX_aload hC dX9_copy_79 rfl ?_
          refine GX_iload_n hC dX9_copy_81 rfl ?_
          refine GX_iload hC dX9_copy_82 rfl ?_
          obtain ⟨b46, e47, h48⟩ := ob e37
          refine GX_callV_i (st := []) hC (C_Shelf_hasPlaces hsh16 e47) okX8_hasPlaces lkX9_307 (olShelf hsh16) rfl rfl (Nat.le_of_ble_eq_true rfl) (Nat.le_of_ble_eq_true rfl) hk rfl (Nat.le_of_ble_eq_true rfl) dX9_copy_84 ?_
          refine GX_ifb_eq hC 102 dX9_copy_87 (by decide) (fun q => ?_) (fun q => ?_)
          · skip
            have h49 := ifT q h48
            refine GX_aload hC dX9_copy_90 rfl ?_
            refine GX_iload hC dX9_copy_92 rfl ?_
            refine GX_iload hC dX9_copy_94 rfl ?_
            obtain ⟨b50, e51, h52⟩ := ob h49
            refine GX_callV_i (st := []) hC (C_Shelf_hasPlaces hsh21 e51) okX8_hasPlaces lkX9_307 (olShelf hsh21) rfl rfl (Nat.le_of_ble_eq_true rfl) (Nat.le_of_ble_eq_true rfl) hk rfl (Nat.le_of_ble_eq_true rfl) dX9_copy_96 ?_
            refine GX_ifb_ne hC 105 dX9_copy_99 (by decide) (fun q => ?_) (fun q => ?_)
            · skip
              exact hc41 (cbnT q h52)
            · skip
              exact hc39 (cbnF q h52)
          · skip
            have h53 := ifF q h48
            exact hc39 (oi h53)
        refine GX_aload hC dX9_copy_45 rfl ?_
        refine GX_getI hC fkX9_270 (olShelf hsh16) rfl dX9_copy_47 ?_
        refine GX_iconst hC 2 dX9_copy_50 rfl ?_
        refine GX_icmp_ne_P hC 76 dX9_copy_51 (by decide) (fun q => ?_) (fun q => ?_)
        · skip
          have h54 := ifP q e30
          exact hc32 (oi h54)
        · skip
          have h55 := ifN q e30
          refine GX_aload hC dX9_copy_54 rfl ?_
          refine GX_getI hC fkX9_270 (olShelf hsh21) rfl dX9_copy_56 ?_
          refine GX_iconst hC 2 dX9_copy_59 rfl ?_
          refine GX_icmp_ne_P hC 76 dX9_copy_60 (by decide) (fun q => ?_) (fun q => ?_)
          · skip
            have h56 := ifP q h55
            exact hc32 (oi h56)
          · skip
            have h57 := ifN q h55
            refine GX_aload hC dX9_copy_63 rfl ?_
            refine GX_getI hC fkX9_304 (olShelf hsh16) rfl dX9_copy_65 ?_
            refine GX_aload hC dX9_copy_68 rfl ?_
            refine GX_getI hC fkX9_304 (olShelf hsh21) rfl dX9_copy_70 ?_
            refine GX_icmp_eq_N hC 79 dX9_copy_73 (by decide) (fun q => ?_) (fun q => ?_)
            · skip
              exact hc32 (cdT q h57)
            · skip
              exact hc34 (cdF q h57)
      refine GX_aload hC dX9_copy_26 rfl ?_
      refine GX_getI hC fkX9_270 (olShelf hsh16) rfl dX9_copy_28 ?_
      refine GX_if_eq_P hC 42 dX9_copy_31 (by decide) (fun q => ?_) (fun q => ?_)
      · skip
        have h58 := ifP q e23
        exact hc25 (oi h58)
      · skip
        have h59 := ifN q e23
        refine GX_aload hC dX9_copy_34 rfl ?_
        refine GX_getI hC fkX9_270 (olShelf hsh21) rfl dX9_copy_36 ?_
        refine GX_if_ne_N hC 45 dX9_copy_39 (by decide) (fun q => ?_) (fun q => ?_)
        · skip
          exact hc25 (cdT q h59)
        · skip
          exact hc27 (cdF q h59)
set_option maxRecDepth 100000 in
set_option maxHeartbeats 4000000 in
theorem C_N_fee {l : Launch} {d1 : Int32} {m2 : MI} {r0 : Int32}  (hf : N_fee d1 m2 = some r0) : Cn l yX9_fee cX9_fee 4 (some .int) 1 LAY (fun ad => .ref (ad 0) :: [.int d1]) m2 (fun _ => some (.int r0)) m2 := by
  refine Cn.of (fun ad => [some (.ref (ad 0)), some (.int d1), none, none]) (by decide +kernel) (fun _ => rfl) (fun _ => Nat.le_of_ble_eq_true rfl) (fun Γ hl hC hR hk => ?_)
  subst hl
  replace hC : CX Γ cX9_fee RX9 LAY 1 4 := hC
  dsimp only [N_fee] at hf
  refine GX_aload_n hC dX9_fee_0 rfl ?_
  refine GX_iload_n hC dX9_fee_1 rfl ?_
  rcases hs3 : N_shelfAt d1 with _ | s4
  · skip
    have h5 := onNn hs3 hf
    refine GX_callV_n (st := []) hC (C_N_shelfAt_n hs3) okX9_shelfAt lkX9_75 ol_0 rfl rfl (Nat.le_of_ble_eq_true rfl) (Nat.le_of_ble_eq_true rfl) hk rfl (Nat.le_of_ble_eq_true rfl) dX9_fee_2 ?_
    refine GX_astore_nN hC [some (.ref (gad Γ 0)), some (.int d1), some (.null), none] dX9_fee_5 (by decide) rfl rfl ?_
    refine GX_aload_nN hC dX9_fee_6 rfl ?_
    refine GX_ifnonnullN hC dX9_fee_7 ?_
    refine GX_iconst hC (-1) dX9_fee_10 rfl ?_
    exact GX_iretR hC hR dX9_fee_11 (oi h5)
  · skip
    have h6 := onNs hs3 hf
    refine GX_callV_r (st := []) hC (C_N_shelfAt_s hs3) okX9_shelfAt lkX9_75 ol_0 rfl rfl (Nat.le_of_ble_eq_true rfl) (Nat.le_of_ble_eq_true rfl) hk rfl (Nat.le_of_ble_eq_true rfl) dX9_fee_2 ?_
    have hsh7 := isShelf_at hs3
    refine GX_astore_n hC [some (.ref (gad Γ 0)), some (.int d1), some (.ref (gad Γ s4)), none] dX9_fee_5 (by decide) rfl rfl ?_
    refine GX_aload_n hC dX9_fee_6 rfl ?_
    refine GX_ifnonnull hC 12 dX9_fee_7 (by decide) ?_
    refine GX_aload_n hC dX9_fee_12 rfl ?_
    refine GX_iconst hC 1 dX9_fee_13 rfl ?_
    obtain ⟨r8, e9, h10⟩ := ob h6
    refine GX_callV_i (st := []) hC (C_Shelf_refusalUnless hsh7 e9) okX8_refusalUnless lkX9_281 (olShelf hsh7) rfl rfl (Nat.le_of_ble_eq_true rfl) (Nat.le_of_ble_eq_true rfl) hk rfl (Nat.le_of_ble_eq_true rfl) dX9_fee_14 ?_
    refine GX_istore_n hC [some (.ref (gad Γ 0)), some (.int d1), some (.ref (gad Γ s4)), some (.int r8)] dX9_fee_17 (by decide) rfl rfl ?_
    obtain ⟨x11, e12, h13⟩ := ob h10
    suffices hJ14 : GX Γ LAY 0 0 [some (.ref (gad Γ 0)), some (.int d1), some (.ref (gad Γ s4)), some (.int r8)] [.int x11] m2 33 by
      refine GX_iload_n hC dX9_fee_18 rfl ?_
      refine GX_if_eq_N hC 26 dX9_fee_19 (by decide) (fun q => ?_) (fun q => ?_)
      · skip
        have h15 := ifP q e12
        refine GX_iload_n hC dX9_fee_22 rfl ?_
        refine GX_goto hC 33 dX9_fee_23 (by decide) ?_
        exact GX_nm (oi h15) hJ14
      · skip
        have h16 := ifN q e12
        refine GX_aload_n hC dX9_fee_26 rfl ?_
        refine GX_getR hC fkX9_164 (olShelf hsh7) rfl dX9_fee_27 ?_
        obtain ⟨r17, e18, h19⟩ := ob h16
        refine GX_callV_i (st := []) hC (C_Move_feeAsked (isMove_of hsh7) e18) okX4_feeAsked lkX9_320 (olMove (isMove_of hsh7)) rfl rfl (Nat.le_of_ble_eq_true rfl) (Nat.le_of_ble_eq_true rfl) hk rfl (Nat.le_of_ble_eq_true rfl) dX9_fee_30 ?_
        exact GX_nm (oi h19) hJ14
    exact GX_iretR hC hR dX9_fee_33 (oi h13)
