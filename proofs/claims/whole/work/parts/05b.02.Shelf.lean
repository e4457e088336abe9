set_option maxRecDepth 100000 in
set_option maxHeartbeats 4000000 in
theorem C_Shelf_at {l : Launch} {t : Nat} {i1 : Int32} {m2 : MI} {r0 : Int32} (ht : isShelf t) (hf : Shelf_at t i1 m2 = some r0) : Cn l yX8_at cX8_at 2 (some .int) 0 LAY (fun ad => .ref (ad t) :: [.int i1]) m2 (fun _ => some (.int r0)) m2 := by
  refine Cn.of (fun ad => [some (.ref (ad t)), some (.int i1)]) (by decide +kernel) (fun _ => rfl) (fun _ => Nat.le_of_ble_eq_true rfl) (fun Γ hl hC hR hk => ?_)
  subst hl
  replace hC : CX Γ cX8_at RX8 LAY 0 2 := hC
  dsimp only [Shelf_at] at hf
  obtain ⟨x3, e4, h5⟩ := ob hf
  suffices hJ6 : GX Γ LAY 0 0 [some (.ref (gad Γ t)), some (.int i1)] [.int x3] m2 31 by
    obtain ⟨c7, e8, h9⟩ := ob e4
    have hc10 : true = c7 → GX Γ LAY 0 0 [some (.ref (gad Γ t)), some (.int i1)] [] m2 21 := by
      intro q
      have h11 := ifT q.symm h9
      refine GX_aload_n hC dX8_at_21 rfl ?_
      refine GX_getR hC fkX8_28 (olShelf ht) rfl dX8_at_22 ?_
      refine GX_iload_n hC dX8_at_25 rfl ?_
      obtain ⟨x12, e13, h14⟩ := ob h11
      refine GX_ldA hC e13 (alShelf2 ht) dX8_at_26 ?_
      refine GX_goto hC 31 dX8_at_27 (by decide) ?_
      exact GX_nm (oi h14) hJ6
    have hc15 : false = c7 → GX Γ LAY 0 0 [some (.ref (gad Γ t)), some (.int i1)] [] m2 30 := by
      intro q
      have h16 := ifF q.symm h9
      refine GX_iconst hC 0 dX8_at_30 rfl ?_
      exact GX_nm (oi h16) hJ6
    refine GX_iload_n hC dX8_at_0 rfl ?_
    refine GX_if_lt_N hC 30 dX8_at_1 (by decide) (fun q => ?_) (fun q => ?_)
    · skip
      have h17 := ifP q e8
      refine GX_iload_n hC dX8_at_4 rfl ?_
      refine GX_aload_n hC dX8_at_5 rfl ?_
      refine GX_getI hC fkX8_18 (olShelf ht) rfl dX8_at_6 ?_
      refine GX_icmp_ge_N hC 30 dX8_at_9 (by decide) (fun q => ?_) (fun q => ?_)
      · skip
        have h18 := ifP q h17
        refine GX_iload_n hC dX8_at_12 rfl ?_
        refine GX_aload_n hC dX8_at_13 rfl ?_
        refine GX_getR hC fkX8_28 (olShelf ht) rfl dX8_at_14 ?_
        refine GX_alen hC 100 (alShelf2 ht) (by decide) rfl dX8_at_17 ?_
        refine GX_icmp_ge_N hC 30 dX8_at_18 (by decide) (fun q => ?_) (fun q => ?_)
        · skip
          exact hc10 (cdT q h18)
        · skip
          exact hc15 (cdF q h18)
      · skip
        have h19 := ifN q h17
        exact hc15 (oi h19)
    · skip
      have h20 := ifN q e8
      exact hc15 (oi h20)
  exact GX_iretR hC hR dX8_at_31 (oi h5)
set_option maxRecDepth 100000 in
set_option maxHeartbeats 4000000 in
theorem C_Shelf_refusalUnless {l : Launch} {t : Nat} {wanted1 : Int32} {m2 : MI} {r0 : Int32} (ht : isShelf t) (hf : Shelf_refusalUnless t wanted1 m2 = some r0) : Cn l yX8_refusalUnless cX8_refusalUnless 2 (some .int) 0 LAY (fun ad => .ref (ad t) :: [.int wanted1]) m2 (fun _ => some (.int r0)) m2 := by
  refine Cn.of (fun ad => [some (.ref (ad t)), some (.int wanted1)]) (by decide +kernel) (fun _ => rfl) (fun _ => Nat.le_of_ble_eq_true rfl) (fun Γ hl hC hR hk => ?_)
  subst hl
  replace hC : CX Γ cX8_refusalUnless RX8 LAY 0 2 := hC
  dsimp only [Shelf_refusalUnless] at hf
  refine GX_aload_n hC dX8_refusalUnless_0 rfl ?_
  refine GX_getI hC fkX8_9 (olShelf ht) rfl dX8_refusalUnless_1 ?_
  refine GX_if_ne_N hC 10 dX8_refusalUnless_4 (by decide) (fun q => ?_) (fun q => ?_)
  · skip
    have h3 := ifP q hf
    refine GX_bipush hC (-11) dX8_refusalUnless_7 rfl ?_
    exact GX_iretR hC hR dX8_refusalUnless_9 (oi h3)
  · skip
    have h4 := ifN q hf
    obtain ⟨x5, e6, h7⟩ := ob h4
    suffices hJ8 : GX Γ LAY 0 0 [some (.ref (gad Γ t)), some (.int wanted1)] [.int x5] m2 24 by
      refine GX_aload_n hC dX8_refusalUnless_10 rfl ?_
      refine GX_getI hC fkX8_9 (olShelf ht) rfl dX8_refusalUnless_11 ?_
      refine GX_iload_n hC dX8_refusalUnless_14 rfl ?_
      refine GX_icmp_ne_N hC 22 dX8_refusalUnless_15 (by decide) (fun q => ?_) (fun q => ?_)
      · skip
        have h9 := ifP q e6
        refine GX_iconst hC 0 dX8_refusalUnless_18 rfl ?_
        refine GX_goto hC 24 dX8_refusalUnless_19 (by decide) ?_
        exact GX_nm (oi h9) hJ8
      · skip
        have h10 := ifN q e6
        refine GX_bipush hC (-12) dX8_refusalUnless_22 rfl ?_
        exact GX_nm (oi h10) hJ8
    exact GX_iretR hC hR dX8_refusalUnless_24 (oi h7)
set_option maxRecDepth 100000 in
set_option maxHeartbeats 4000000 in
theorem C_Shelf_bytesRefusal {l : Launch} {t : Nat} {m1 : MI} {r0 : Int32} (ht : isShelf t) (hf : Shelf_bytesRefusal t m1 = some r0) : Cn l yX8_bytesRefusal cX8_bytesRefusal 2 (some .int) 1 LAY (fun ad => .ref (ad t) :: []) m1 (fun _ => some (.int r0)) m1 := by
  refine Cn.of (fun ad => [some (.ref (ad t)), none]) (by decide +kernel) (fun _ => rfl) (fun _ => Nat.le_of_ble_eq_true rfl) (fun Γ hl hC hR hk => ?_)
  subst hl
  replace hC : CX Γ cX8_bytesRefusal RX8 LAY 1 2 := hC
  dsimp only [Shelf_bytesRefusal] at hf
  refine GX_aload_n hC dX8_bytesRefusal_0 rfl ?_
  refine GX_iconst hC 2 dX8_bytesRefusal_1 rfl ?_
  obtain ⟨r2, e3, h4⟩ := ob hf
  refine GX_callV_i (st := []) hC (C_Shelf_refusalUnless ht e3) okX8_refusalUnless lkX8_32 (olShelf ht) rfl rfl (Nat.le_of_ble_eq_true rfl) (Nat.le_of_ble_eq_true rfl) hk rfl (Nat.le_of_ble_eq_true rfl) dX8_bytesRefusal_2 ?_
  refine GX_istore_n hC [some (.ref (gad Γ t)), some (.int r2)] dX8_bytesRefusal_5 (by decide) rfl rfl ?_
  obtain ⟨x5, e6, h7⟩ := ob h4
  suffices hJ8 : GX Γ LAY 0 0 [some (.ref (gad Γ t)), some (.int r2)] [.int x5] m1 23 by
    obtain ⟨c9, e10, h11⟩ := ob e6
    have hc12 : true = c9 → GX Γ LAY 0 0 [some (.ref (gad Γ t)), some (.int r2)] [] m1 17 := by
      intro q
      have h13 := ifT q.symm h11
      refine GX_bipush hC (-12) dX8_bytesRefusal_17 rfl ?_
      refine GX_goto hC 23 dX8_bytesRefusal_19 (by decide) ?_
      exact GX_nm (oi h13) hJ8
    have hc14 : false = c9 → GX Γ LAY 0 0 [some (.ref (gad Γ t)), some (.int r2)] [] m1 22 := by
      intro q
      have h15 := ifF q.symm h11
      refine GX_iload_n hC dX8_bytesRefusal_22 rfl ?_
      exact GX_nm (oi h15) hJ8
    refine GX_iload_n hC dX8_bytesRefusal_6 rfl ?_
    refine GX_if_ne_N hC 22 dX8_bytesRefusal_7 (by decide) (fun q => ?_) (fun q => ?_)
    · skip
      have h16 := ifP q e10
      refine GX_aload_n hC dX8_bytesRefusal_10 rfl ?_
      refine GX_getI hC fkX8_15 (olShelf ht) rfl dX8_bytesRefusal_11 ?_
      refine GX_if_eq_N hC 22 dX8_bytesRefusal_14 (by decide) (fun q => ?_) (fun q => ?_)
      · skip
        exact hc12 (cdT q h16)
      · skip
        exact hc14 (cdF q h16)
    · skip
      have h17 := ifN q e10
      exact hc14 (oi h17)
  exact GX_iretR hC hR dX8_bytesRefusal_23 (oi h7)
set_option maxRecDepth 100000 in
set_option maxHeartbeats 4000000 in
theorem C_Shelf_becomeRow {l : Launch} {t : Nat} {newSort1 : Int32} {newSize2 : Int32} {m3 : MI} {mr : MI} (ht : isShelf t) (hf : Shelf_becomeRow t newSort1 newSize2 m3 = some mr) : Cn l yX8_becomeRow cX8_becomeRow 3 none 1 LAY (fun ad => .ref (ad t) :: [.int newSort1, .int newSize2]) m3 (fun _ => none) mr := by
  refine Cn.of (fun ad => [some (.ref (ad t)), some (.int newSort1), some (.int newSize2)]) (by decide +kernel) (fun _ => rfl) (fun _ => Nat.le_of_ble_eq_true rfl) (fun Γ hl hC hR hk => ?_)
  subst hl
  replace hC : CX Γ cX8_becomeRow RX8 LAY 1 3 := hC
  dsimp only [Shelf_becomeRow] at hf
  refine GX_aload_n hC dX8_becomeRow_0 rfl ?_
  refine GX_iconst hC 2 dX8_becomeRow_1 rfl ?_
  obtain ⟨m4, e5, h6⟩ := ob hf
  refine GX_stF hC e5 fkX8_9 ftX8_0 (olShelf ht) rfl dX8_becomeRow_2 ?_
  refine GX_aload_n hC dX8_becomeRow_5 rfl ?_
  refine GX_iload_n hC dX8_becomeRow_6 rfl ?_
  obtain ⟨m7, e8, h9⟩ := ob h6
  refine GX_stF hC e8 fkX8_15 ftX8_1 (olShelf ht) rfl dX8_becomeRow_7 ?_
  refine GX_aload_n hC dX8_becomeRow_10 rfl ?_
  refine GX_iload_n hC dX8_becomeRow_11 rfl ?_
  obtain ⟨m10, e11, h12⟩ := ob h9
  refine GX_stF hC e11 fkX8_18 ftX8_2 (olShelf ht) rfl dX8_becomeRow_12 ?_
  refine GX_aload_n hC dX8_becomeRow_15 rfl ?_
  refine GX_getR hC fkX8_28 (olShelf ht) rfl dX8_becomeRow_16 ?_
  refine GX_iconst hC 0 dX8_becomeRow_19 rfl ?_
  obtain ⟨m13, e14, h15⟩ := ob h12
  refine GX_callS_v (st := []) hC (C_fill (alShelf2 ht) (by decide) e14) okJ_fill lkX8_36 rfl (Nat.le_of_ble_eq_true rfl) (Nat.le_of_ble_eq_true rfl) hk rfl (Nat.le_of_ble_eq_true rfl) dX8_becomeRow_20 ?_
  exact GX_vretW hC hR dX8_becomeRow_23 (oi h15)
set_option maxRecDepth 100000 in
set_option maxHeartbeats 4000000 in
theorem C_Shelf_isPlace {l : Launch} {t : Nat} {i1 : Int32} {m2 : MI} {r0 : Bool} (ht : isShelf t) (hf : Shelf_isPlace t i1 m2 = some r0) : Cn l yX8_isPlace cX8_isPlace 2 (some .boolean) 0 LAY (fun ad => .ref (ad t) :: [.int i1]) m2 (fun _ => some (.int (bI r0))) m2 := by
  refine Cn.of (fun ad => [some (.ref (ad t)), some (.int i1)]) (by decide +kernel) (fun _ => rfl) (fun _ => Nat.le_of_ble_eq_true rfl) (fun Γ hl hC hR hk => ?_)
  subst hl
  replace hC : CX Γ cX8_isPlace RX8 LAY 0 2 := hC
  dsimp only [Shelf_isPlace] at hf
  obtain ⟨c3, e4, h5⟩ := ob hf
  suffices hJ6 : GX Γ LAY 0 0 [some (.ref (gad Γ t)), some (.int i1)] [.int (bI c3)] m2 26 by
    have hc7 : true = c3 → GX Γ LAY 0 0 [some (.ref (gad Γ t)), some (.int i1)] [] m2 21 := by
      intro q
      subst q
      refine GX_iconst hC (bI true) dX8_isPlace_21 rfl ?_
      refine GX_goto hC 26 dX8_isPlace_22 (by decide) ?_
      exact hJ6
    have hc8 : false = c3 → GX Γ LAY 0 0 [some (.ref (gad Γ t)), some (.int i1)] [] m2 25 := by
      intro q
      subst q
      refine GX_iconst hC (bI false) dX8_isPlace_25 rfl ?_
      exact hJ6
    refine GX_iload_n hC dX8_isPlace_0 rfl ?_
    refine GX_if_lt_N hC 25 dX8_isPlace_1 (by decide) (fun q => ?_) (fun q => ?_)
    · skip
      have h9 := ifP q e4
      refine GX_iload_n hC dX8_isPlace_4 rfl ?_
      refine GX_aload_n hC dX8_isPlace_5 rfl ?_
      refine GX_getI hC fkX8_18 (olShelf ht) rfl dX8_isPlace_6 ?_
      refine GX_icmp_ge_N hC 25 dX8_isPlace_9 (by decide) (fun q => ?_) (fun q => ?_)
      · skip
        have h10 := ifP q h9
        refine GX_iload_n hC dX8_isPlace_12 rfl ?_
        refine GX_aload_n hC dX8_isPlace_13 rfl ?_
        refine GX_getR hC fkX8_28 (olShelf ht) rfl dX8_isPlace_14 ?_
        refine GX_alen hC 100 (alShelf2 ht) (by decide) rfl dX8_isPlace_17 ?_
        refine GX_icmp_ge_N hC 25 dX8_isPlace_18 (by decide) (fun q => ?_) (fun q => ?_)
        · skip
          exact hc7 (cdT q h10)
        · skip
          exact hc8 (cdF q h10)
      · skip
        have h11 := ifN q h9
        exact hc8 (oi h11)
    · skip
      have h12 := ifN q e4
      exact hc8 (oi h12)
  exact GX_zretR hC c3 hR dX8_isPlace_26 (oi h5)
set_option maxRecDepth 100000 in
set_option maxHeartbeats 4000000 in
theorem C_Shelf_set {l : Launch} {t : Nat} {i1 : Int32} {v2 : Int32} {m3 : MI} {r0 : Bool} {mr : MI} (ht : isShelf t) (hf : Shelf_set t i1 v2 m3 = some (r0, mr)) : Cn l yX8_set cX8_set 3 (some .boolean) 1 LAY (fun ad => .ref (ad t) :: [.int i1, .int v2]) m3 (fun _ => some (.int (bI r0))) mr := by
  refine Cn.of (fun ad => [some (.ref (ad t)), some (.int i1), some (.int v2)]) (by decide +kernel) (fun _ => rfl) (fun _ => Nat.le_of_ble_eq_true rfl) (fun Γ hl hC hR hk => ?_)
  subst hl
  replace hC : CX Γ cX8_set RX8 LAY 1 3 := hC
  dsimp only [Shelf_set] at hf
  refine GX_aload_n hC dX8_set_0 rfl ?_
  refine GX_iload_n hC dX8_set_1 rfl ?_
  obtain ⟨b4, e5, h6⟩ := ob hf
  refine GX_callV_i (st := []) hC (C_Shelf_isPlace ht e5) okX8_isPlace lkX8_42 (olShelf ht) rfl rfl (Nat.le_of_ble_eq_true rfl) (Nat.le_of_ble_eq_true rfl) hk rfl (Nat.le_of_ble_eq_true rfl) dX8_set_2 ?_
  refine GX_ifb_ne hC 10 dX8_set_5 (by decide) (fun q => ?_) (fun q => ?_)
  · skip
    have h7 := ifT q h6
    refine GX_aload_n hC dX8_set_10 rfl ?_
    refine GX_getR hC fkX8_28 (olShelf ht) rfl dX8_set_11 ?_
    refine GX_iload_n hC dX8_set_14 rfl ?_
    obtain ⟨x8, e9, h10⟩ := ob h7
    suffices hJ11 : GX Γ LAY 0 0 [some (.ref (gad Γ t)), some (.int i1), some (.int v2)] [.int x8, .int i1, .ref (gad Γ (t + 2))] m3 41 by
      refine GX_aload_n hC dX8_set_15 rfl ?_
      refine GX_getI hC fkX8_15 (olShelf ht) rfl dX8_set_16 ?_
      refine GX_if_ne_N hC 27 dX8_set_19 (by decide) (fun q => ?_) (fun q => ?_)
      · skip
        have h12 := ifP q e9
        refine GX_iload_n hC dX8_set_22 rfl ?_
        refine GX_i2b hC dX8_set_23 ?_
        refine GX_goto hC 41 dX8_set_24 (by decide) ?_
        exact GX_nm (oi h12) hJ11
      · skip
        have h13 := ifN q e9
        obtain ⟨x14, e15, h16⟩ := ob h13
        suffices hJ17 : GX Γ LAY 0 0 [some (.ref (gad Γ t)), some (.int i1), some (.int v2)] [.int x14, .int i1, .ref (gad Γ (t + 2))] m3 41 by
          refine GX_aload_n hC dX8_set_27 rfl ?_
          refine GX_getI hC fkX8_15 (olShelf ht) rfl dX8_set_28 ?_
          refine GX_iconst hC 1 dX8_set_31 rfl ?_
          refine GX_icmp_ne_N hC 40 dX8_set_32 (by decide) (fun q => ?_) (fun q => ?_)
          · skip
            have h18 := ifP q e15
            refine GX_iload_n hC dX8_set_35 rfl ?_
            refine GX_i2s hC dX8_set_36 ?_
            refine GX_goto hC 41 dX8_set_37 (by decide) ?_
            exact GX_nm (oi h18) hJ17
          · skip
            have h19 := ifN q e15
            refine GX_iload_n hC dX8_set_40 rfl ?_
            exact GX_nm (oi h19) hJ17
        exact GX_nm (oi h16) hJ11
    obtain ⟨m20, e21, h22⟩ := ob h10
    refine GX_stA hC e21 (alShelf2 ht) dX8_set_41 ?_
    refine GX_iconst hC (bI true) dX8_set_42 rfl ?_
    exact GX_zretW hC true hR dX8_set_43 (oi h22)
  · skip
    have h23 := ifF q h6
    refine GX_iconst hC (bI false) dX8_set_8 rfl ?_
    exact GX_zretW hC false hR dX8_set_9 (oi h23)
set_option maxRecDepth 100000 in
set_option maxHeartbeats 4000000 in
theorem C_Shelf_hasPlaces {l : Launch} {t : Nat} {from1 : Int32} {n2 : Int32} {m3 : MI} {r0 : Bool} (ht : isShelf t) (hf : Shelf_hasPlaces t from1 n2 m3 = some r0) : Cn l yX8_hasPlaces cX8_hasPlaces 3 (some .boolean) 0 LAY (fun ad => .ref (ad t) :: [.int from1, .int n2]) m3 (fun _ => some (.int (bI r0))) m3 := by
  refine Cn.of (fun ad => [some (.ref (ad t)), some (.int from1), some (.int n2)]) (by decide +kernel) (fun _ => rfl) (fun _ => Nat.le_of_ble_eq_true rfl) (fun Γ hl hC hR hk => ?_)
  subst hl
  replace hC : CX Γ cX8_hasPlaces RX8 LAY 0 3 := hC
  dsimp only [Shelf_hasPlaces] at hf
  obtain ⟨c4, e5, h6⟩ := ob hf
  suffices hJ7 : GX Γ LAY 0 0 [some (.ref (gad Γ t)), some (.int from1), some (.int n2)] [.int (bI c4)] m3 43 by
    have hc8 : true = c4 → GX Γ LAY 0 0 [some (.ref (gad Γ t)), some (.int from1), some (.int n2)] [] m3 38 := by
      intro q
      subst q
      refine GX_iconst hC (bI true) dX8_hasPlaces_38 rfl ?_
      refine GX_goto hC 43 dX8_hasPlaces_39 (by decide) ?_
      exact hJ7
    have hc9 : false = c4 → GX Γ LAY 0 0 [some (.ref (gad Γ t)), some (.int from1), some (.int n2)] [] m3 42 := by
      intro q
      subst q
      refine GX_iconst hC (bI false) dX8_hasPlaces_42 rfl ?_
      exact hJ7
    refine GX_iload_n hC dX8_hasPlaces_0 rfl ?_
    refine GX_if_lt_N hC 42 dX8_hasPlaces_1 (by decide) (fun q => ?_) (fun q => ?_)
    · skip
      have h10 := ifP q e5
      refine GX_iload_n hC dX8_hasPlaces_4 rfl ?_
      refine GX_if_lt_N hC 42 dX8_hasPlaces_5 (by decide) (fun q => ?_) (fun q => ?_)
      · skip
        have h11 := ifP q h10
        refine GX_iload_n hC dX8_hasPlaces_8 rfl ?_
        refine GX_aload_n hC dX8_hasPlaces_9 rfl ?_
        refine GX_getI hC fkX8_18 (olShelf ht) rfl dX8_hasPlaces_10 ?_
        refine GX_icmp_gt_N hC 42 dX8_hasPlaces_13 (by decide) (fun q => ?_) (fun q => ?_)
        · skip
          have h12 := ifP q h11
          refine GX_iload_n hC dX8_hasPlaces_16 rfl ?_
          refine GX_aload_n hC dX8_hasPlaces_17 rfl ?_
          refine GX_getI hC fkX8_18 (olShelf ht) rfl dX8_hasPlaces_18 ?_
          refine GX_iload_n hC dX8_hasPlaces_21 rfl ?_
          refine GX_isub hC dX8_hasPlaces_22 ?_
          refine GX_icmp_gt_N hC 42 dX8_hasPlaces_23 (by decide) (fun q => ?_) (fun q => ?_)
          · skip
            have h13 := ifP q h12
            refine GX_aload_n hC dX8_hasPlaces_26 rfl ?_
            refine GX_getI hC fkX8_18 (olShelf ht) rfl dX8_hasPlaces_27 ?_
            refine GX_aload_n hC dX8_hasPlaces_30 rfl ?_
            refine GX_getR hC fkX8_28 (olShelf ht) rfl dX8_hasPlaces_31 ?_
            refine GX_alen hC 100 (alShelf2 ht) (by decide) rfl dX8_hasPlaces_34 ?_
            refine GX_icmp_gt_N hC 42 dX8_hasPlaces_35 (by decide) (fun q => ?_) (fun q => ?_)
            · skip
              exact hc8 (cdT q h13)
            · skip
              exact hc9 (cdF q h13)
          · skip
            have h14 := ifN q h12
            exact hc9 (oi h14)
        · skip
          have h15 := ifN q h11
          exact hc9 (oi h15)
      · skip
        have h16 := ifN q h10
        exact hc9 (oi h16)
    · skip
      have h17 := ifN q e5
      exact hc9 (oi h17)
  exact GX_zretR hC c4 hR dX8_hasPlaces_43 (oi h6)
