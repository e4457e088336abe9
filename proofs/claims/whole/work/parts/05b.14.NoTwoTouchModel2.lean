set_option maxRecDepth 100000 in
set_option maxHeartbeats 4000000 in
theorem C_M_bestTold {l : Launch} {f1 : Int32} {m2 : MI} {r0 : Int32} {mr : MI}  (hf : M_bestTold f1 m2 = some (r0, mr)) : Cn l yX10_bestTold cX10_bestTold 2 (some .int) 1 LAY (fun ad => .ref (ad 62) :: [.int f1]) m2 (fun _ => some (.int r0)) mr := by
  refine Cn.of (fun ad => [some (.ref (ad 62)), some (.int f1)]) (by decide +kernel) (fun _ => rfl) (fun _ => Nat.le_of_ble_eq_true rfl) (fun Γ hl hC hR hk => ?_)
  subst hl
  replace hC : CX Γ cX10_bestTold RX10 LAY 1 2 := hC
  dsimp only [M_bestTold] at hf
  refine GX_iload_n hC dX10_bestTold_0 rfl ?_
  refine GX_if_ge_N hC 9 dX10_bestTold_1 (by decide) (fun q => ?_) (fun q => ?_)
  · skip
    have h3 := ifP q hf
    refine GX_aload_n hC dX10_bestTold_4 rfl ?_
    refine GX_getI hC fkX10_270 ol_62 rfl dX10_bestTold_5 ?_
    exact GX_iretW hC hR dX10_bestTold_8 (oi h3)
  · skip
    have h4 := ifN q hf
    refine GX_aload_n hC dX10_bestTold_9 rfl ?_
    refine GX_aload_n hC dX10_bestTold_10 rfl ?_
    refine GX_getI hC fkX10_267 ol_62 rfl dX10_bestTold_11 ?_
    refine GX_aload_n hC dX10_bestTold_14 rfl ?_
    refine GX_getI hC fkX10_110 ol_62 rfl dX10_bestTold_15 ?_
    refine GX_iconst hC 1 dX10_bestTold_18 rfl ?_
    refine GX_iadd hC dX10_bestTold_19 ?_
    obtain ⟨m5, e6, h7⟩ := ob h4
    refine GX_callV_v (st := []) hC (C_M_spread e6) okX10_spread lkX10_261 ol_62 rfl rfl (Nat.le_of_ble_eq_true rfl) (Nat.le_of_ble_eq_true rfl) hk rfl (Nat.le_of_ble_eq_true rfl) dX10_bestTold_20 ?_
    obtain ⟨x8, e9, h10⟩ := ob h7
    suffices hJ11 : GX Γ LAY 0 0 [some (.ref (gad Γ 62)), some (.int f1)] [.int x8] m5 45 by
      refine GX_aload_n hC dX10_bestTold_23 rfl ?_
      refine GX_getR hC fkX10_49 ol_62 rfl dX10_bestTold_24 ?_
      refine GX_iload_n hC dX10_bestTold_27 rfl ?_
      obtain ⟨x12, e13, h14⟩ := ob e9
      refine GX_ldA hC e13 al_76 dX10_bestTold_28 ?_
      refine GX_if_ne_N hC 37 dX10_bestTold_29 (by decide) (fun q => ?_) (fun q => ?_)
      · skip
        have h15 := ifP q h14
        refine GX_bipush hC (-4) dX10_bestTold_32 rfl ?_
        refine GX_goto hC 45 dX10_bestTold_34 (by decide) ?_
        exact GX_nm (oi h15) hJ11
      · skip
        have h16 := ifN q h14
        refine GX_aload_n hC dX10_bestTold_37 rfl ?_
        refine GX_getR hC fkX10_49 ol_62 rfl dX10_bestTold_38 ?_
        refine GX_iload_n hC dX10_bestTold_41 rfl ?_
        obtain ⟨x17, e18, h19⟩ := ob h16
        refine GX_ldA hC e18 al_76 dX10_bestTold_42 ?_
        refine GX_iconst hC 1 dX10_bestTold_43 rfl ?_
        refine GX_isub hC dX10_bestTold_44 ?_
        exact GX_nm (oi h19) hJ11
    exact GX_iretW hC hR dX10_bestTold_45 (oi h10)
set_option maxRecDepth 100000 in
set_option maxHeartbeats 4000000 in
theorem C_M_best {l : Launch} {f1 : Int32} {m2 : MI} {r0 : Int32} {mr : MI}  (hf : M_best f1 m2 = some (r0, mr)) : Cn l yX10_best cX10_best 2 (some .int) 4 LAY (fun ad => .ref (ad 62) :: [.int f1]) m2 (fun _ => some (.int r0)) mr := by
  refine Cn.of (fun ad => [some (.ref (ad 62)), some (.int f1)]) (by decide +kernel) (fun _ => rfl) (fun _ => Nat.le_of_ble_eq_true rfl) (fun Γ hl hC hR hk => ?_)
  subst hl
  replace hC : CX Γ cX10_best RX10 LAY 4 2 := hC
  dsimp only [M_best] at hf
  refine GX_aload_n hC dX10_best_0 rfl ?_
  refine GX_iconst hC 0 dX10_best_1 rfl ?_
  obtain ⟨m3, e4, h5⟩ := ob hf
  refine GX_stF hC e4 fkX10_99 ftX10_10 ol_62 rfl dX10_best_2 ?_
  obtain ⟨c6, e7, h8⟩ := ob h5
  have hc9 : true = c6 → GX Γ LAY 0 0 [some (.ref (gad Γ 62)), some (.int f1)] [] m3 18 := by
    intro q
    have h10 := ifT q.symm h8
    refine GX_iconst hC (-1) dX10_best_18 rfl ?_
    exact GX_iretW hC hR dX10_best_19 (oi h10)
  have hc11 : false = c6 → GX Γ LAY 0 0 [some (.ref (gad Γ 62)), some (.int f1)] [] m3 20 := by
    intro q
    have h12 := ifF q.symm h8
    refine GX_aload_n hC dX10_best_20 rfl ?_
    refine GX_iconst hC (bI false) dX10_best_21 rfl ?_
    obtain ⟨m13, e14, h15⟩ := ob h12
    refine GX_callV_v (st := []) hC (C_M_findBest e14) okX10_findBest lkX10_276 ol_62 rfl rfl (Nat.le_of_ble_eq_true rfl) (Nat.le_of_ble_eq_true rfl) hk rfl (Nat.le_of_ble_eq_true rfl) dX10_best_22 ?_
    refine GX_aload_n hC dX10_best_25 rfl ?_
    refine GX_iload_n hC dX10_best_26 rfl ?_
    obtain ⟨⟨r16, m17⟩, e18, h19⟩ := ob h15
    refine GX_callV_i (st := []) hC (C_M_bestTold e18) okX10_bestTold lkX10_280 ol_62 rfl rfl (Nat.le_of_ble_eq_true rfl) (Nat.le_of_ble_eq_true rfl) hk rfl (Nat.le_of_ble_eq_true rfl) dX10_best_27 ?_
    exact GX_iretW hC hR dX10_best_30 (oi h19)
  refine GX_iload_n hC dX10_best_5 rfl ?_
  refine GX_iconst hC (-1) dX10_best_6 rfl ?_
  refine GX_icmp_eq_N hC 20 dX10_best_7 (by decide) (fun q => ?_) (fun q => ?_)
  · skip
    have h20 := ifP q e7
    refine GX_aload_n hC dX10_best_10 rfl ?_
    refine GX_iload_n hC dX10_best_11 rfl ?_
    obtain ⟨b21, e22, h23⟩ := ob h20
    refine GX_callV_i (st := []) hC (C_M_isField e22) okX10_isField lkX10_178 ol_62 rfl rfl (Nat.le_of_ble_eq_true rfl) (Nat.le_of_ble_eq_true rfl) hk rfl (Nat.le_of_ble_eq_true rfl) dX10_best_12 ?_
    refine GX_ifb_ne hC 20 dX10_best_15 (by decide) (fun q => ?_) (fun q => ?_)
    · skip
      exact hc11 (cbnT q h23)
    · skip
      exact hc9 (cbnF q h23)
  · skip
    have h24 := ifN q e7
    exact hc11 (oi h24)
set_option maxRecDepth 100000 in
set_option maxHeartbeats 4000000 in
theorem C_M_withMusts {l : Launch} {f1 : Int32} {m2 : MI} {r0 : Int32} {mr : MI}  (hf : M_withMusts f1 m2 = some (r0, mr)) : Cn l yX10_withMusts cX10_withMusts 2 (some .int) 4 LAY (fun ad => .ref (ad 62) :: [.int f1]) m2 (fun _ => some (.int r0)) mr := by
  refine Cn.of (fun ad => [some (.ref (ad 62)), some (.int f1)]) (by decide +kernel) (fun _ => rfl) (fun _ => Nat.le_of_ble_eq_true rfl) (fun Γ hl hC hR hk => ?_)
  subst hl
  replace hC : CX Γ cX10_withMusts RX10 LAY 4 2 := hC
  dsimp only [M_withMusts] at hf
  refine GX_aload_n hC dX10_withMusts_0 rfl ?_
  refine GX_iconst hC 0 dX10_withMusts_1 rfl ?_
  obtain ⟨m3, e4, h5⟩ := ob hf
  refine GX_stF hC e4 fkX10_99 ftX10_10 ol_62 rfl dX10_withMusts_2 ?_
  obtain ⟨c6, e7, h8⟩ := ob h5
  have hc9 : true = c6 → GX Γ LAY 0 0 [some (.ref (gad Γ 62)), some (.int f1)] [] m3 18 := by
    intro q
    have h10 := ifT q.symm h8
    refine GX_iconst hC (-1) dX10_withMusts_18 rfl ?_
    exact GX_iretW hC hR dX10_withMusts_19 (oi h10)
  have hc11 : false = c6 → GX Γ LAY 0 0 [some (.ref (gad Γ 62)), some (.int f1)] [] m3 20 := by
    intro q
    have h12 := ifF q.symm h8
    refine GX_aload_n hC dX10_withMusts_20 rfl ?_
    refine GX_iconst hC (bI true) dX10_withMusts_21 rfl ?_
    obtain ⟨m13, e14, h15⟩ := ob h12
    refine GX_callV_v (st := []) hC (C_M_findBest e14) okX10_findBest lkX10_276 ol_62 rfl rfl (Nat.le_of_ble_eq_true rfl) (Nat.le_of_ble_eq_true rfl) hk rfl (Nat.le_of_ble_eq_true rfl) dX10_withMusts_22 ?_
    obtain ⟨⟨x16, m17⟩, e18, h19⟩ := ob h15
    suffices hJ20 : GX Γ LAY 0 0 [some (.ref (gad Γ 62)), some (.int f1)] [.int x16] m17 42 by
      refine GX_aload_n hC dX10_withMusts_25 rfl ?_
      refine GX_getI hC fkX10_267 ol_62 rfl dX10_withMusts_26 ?_
      refine GX_if_ge_N hC 37 dX10_withMusts_29 (by decide) (fun q => ?_) (fun q => ?_)
      · skip
        have h21 := ifP q e18
        refine GX_bipush hC (-4) dX10_withMusts_32 rfl ?_
        refine GX_goto hC 42 dX10_withMusts_34 (by decide) ?_
        cases oi h21
        exact hJ20
      · skip
        have h23 := ifN q e18
        refine GX_aload_n hC dX10_withMusts_37 rfl ?_
        refine GX_iload_n hC dX10_withMusts_38 rfl ?_
        obtain ⟨⟨r24, m25⟩, e26, h27⟩ := ob h23
        refine GX_callV_i (st := []) hC (C_M_bestTold e26) okX10_bestTold lkX10_280 ol_62 rfl rfl (Nat.le_of_ble_eq_true rfl) (Nat.le_of_ble_eq_true rfl) hk rfl (Nat.le_of_ble_eq_true rfl) dX10_withMusts_39 ?_
        cases oi h27
        exact hJ20
    exact GX_iretW hC hR dX10_withMusts_42 (oi h19)
  refine GX_iload_n hC dX10_withMusts_5 rfl ?_
  refine GX_iconst hC (-1) dX10_withMusts_6 rfl ?_
  refine GX_icmp_eq_N hC 20 dX10_withMusts_7 (by decide) (fun q => ?_) (fun q => ?_)
  · skip
    have h29 := ifP q e7
    refine GX_aload_n hC dX10_withMusts_10 rfl ?_
    refine GX_iload_n hC dX10_withMusts_11 rfl ?_
    obtain ⟨b30, e31, h32⟩ := ob h29
    refine GX_callV_i (st := []) hC (C_M_isField e31) okX10_isField lkX10_178 ol_62 rfl rfl (Nat.le_of_ble_eq_true rfl) (Nat.le_of_ble_eq_true rfl) hk rfl (Nat.le_of_ble_eq_true rfl) dX10_withMusts_12 ?_
    refine GX_ifb_ne hC 20 dX10_withMusts_15 (by decide) (fun q => ?_) (fun q => ?_)
    · skip
      exact hc11 (cbnT q h32)
    · skip
      exact hc9 (cbnF q h32)
  · skip
    have h33 := ifN q e7
    exact hc11 (oi h33)
set_option maxRecDepth 100000 in
set_option maxHeartbeats 4000000 in
theorem C_M_numberOf {l : Launch} {m1 : MI} {r0 : Int32}  (hf : M_numberOf m1 = some r0) : Cn l yX10_numberOf cX10_numberOf 3 (some .int) 0 LAY (fun ad => .ref (ad 62) :: []) m1 (fun _ => some (.int r0)) m1 := by
  refine Cn.of (fun ad => [some (.ref (ad 62)), none, none]) (by decide +kernel) (fun _ => rfl) (fun _ => Nat.le_of_ble_eq_true rfl) (fun Γ hl hC hR hk => ?_)
  subst hl
  replace hC : CX Γ cX10_numberOf RX10 LAY 0 3 := hC
  dsimp only [M_numberOf] at hf
  refine GX_iconst hC 0 dX10_numberOf_0 rfl ?_
  refine GX_istore_n hC [some (.ref (gad Γ 62)), some (.int 0), none] dX10_numberOf_1 (by decide) rfl rfl ?_
  refine GX_iconst hC 0 dX10_numberOf_2 rfl ?_
  refine GX_istore_n hC [some (.ref (gad Γ 62)), some (.int 0), some (.int 0)] dX10_numberOf_3 (by decide) rfl rfl ?_
  obtain ⟨o2, e3, h4⟩ := ob hf
  suffices hJ5 : ∀ (v8 : Int32), v8 = o2 → GX Γ LAY 0 0 [some (.ref (gad Γ 62)), some (.int v8), none] [] m1 34 by
    refine lp_walk (P := fun s => GX Γ LAY 0 0 [some (.ref (gad Γ 62)), some (.int s.1), some (.int s.2)] [] m1 4) (fun s x hx5 hI5 hO5 => ?_) _ _ e3
    obtain ⟨v6, f7⟩ := s
    show GX Γ LAY 0 0 [some (.ref (gad Γ 62)), some (.int v6), some (.int f7)] [] m1 4
    dsimp only [M_numberOf_s1] at hx5
    refine GX_iload_n hC dX10_numberOf_4 rfl ?_
    refine GX_aload_n hC dX10_numberOf_5 rfl ?_
    refine GX_getI hC fkX10_103 ol_62 rfl dX10_numberOf_6 ?_
    refine GX_icmp_ge_N hC 34 dX10_numberOf_9 (by decide) (fun q => ?_) (fun q => ?_)
    · skip
      have h9 := ifP q hx5
      refine GX_iload_n hC dX10_numberOf_12 rfl ?_
      refine GX_aload_n hC dX10_numberOf_13 rfl ?_
      refine GX_getI hC fkX10_110 ol_62 rfl dX10_numberOf_14 ?_
      refine GX_iconst hC 1 dX10_numberOf_17 rfl ?_
      refine GX_iadd hC dX10_numberOf_18 ?_
      refine GX_imul hC dX10_numberOf_19 ?_
      refine GX_aload_n hC dX10_numberOf_20 rfl ?_
      refine GX_getR hC fkX10_28 ol_62 rfl dX10_numberOf_21 ?_
      refine GX_iload_n hC dX10_numberOf_24 rfl ?_
      obtain ⟨x10, e11, h12⟩ := ob h9
      refine GX_ldA hC e11 al_69 dX10_numberOf_25 ?_
      refine GX_iadd hC dX10_numberOf_26 ?_
      obtain ⟨v13, e14, h15⟩ := ob h12
      refine GX_nm (oi e14) ?_
      refine GX_istore_n hC [some (.ref (gad Γ 62)), some (.int v13), some (.int f7)] dX10_numberOf_27 (by decide) rfl rfl ?_
      obtain ⟨i16, e17, h18⟩ := ob h15
      refine GX_iinc hC i16 [some (.ref (gad Γ 62)), some (.int v13), some (.int i16)] dX10_numberOf_28 rfl (oi e17) (by decide) rfl rfl ?_
      refine GX_goto hC 4 dX10_numberOf_31 (by decide) ?_
      exact hI5 _ (oi h18).symm
    · skip
      have h19 := ifN q hx5
      exact GX.le (hJ5 _ (hO5 _ (oi h19).symm)) ⟨rfl, ⟨rfl, trivial⟩⟩
  intro v8 q20
  subst q20
  refine GX_iload_n hC dX10_numberOf_34 rfl ?_
  exact GX_iretR hC hR dX10_numberOf_35 (oi h4)
set_option maxRecDepth 100000 in
set_option maxHeartbeats 4000000 in
theorem C_M_chain {l : Launch} {d1 : Int32} {m2 : MI} {r0 : Int32} {mr : MI}  (hf : M_chain d1 m2 = some (r0, mr)) : Cn l yX10_chain cX10_chain 10 (some .int) 3 LAY (fun ad => .ref (ad 62) :: [.int d1]) m2 (fun _ => some (.int r0)) mr := by
  refine Cn.of (fun ad => [some (.ref (ad 62)), some (.int d1), none, none, none, none, none, none, none, none]) (by decide +kernel) (fun _ => rfl) (fun _ => Nat.le_of_ble_eq_true rfl) (fun Γ hl hC hR hk => ?_)
  subst hl
  replace hC : CX Γ cX10_chain RX10 LAY 3 10 := hC
  dsimp only [M_chain] at hf
  refine GX_aload_n hC dX10_chain_0 rfl ?_
  refine GX_iconst hC 0 dX10_chain_1 rfl ?_
  obtain ⟨m3, e4, h5⟩ := ob hf
  refine GX_stF hC e4 fkX10_99 ftX10_10 ol_62 rfl dX10_chain_2 ?_
  refine GX_aload_n hC dX10_chain_5 rfl ?_
  refine GX_iload_n hC dX10_chain_6 rfl ?_
  obtain ⟨r6, e7, h8⟩ := ob h5
  refine GX_callV_i (st := []) hC (C_M_wrongBytes e7) okX10_wrongBytes lkX10_184 ol_62 rfl rfl (Nat.le_of_ble_eq_true rfl) (Nat.le_of_ble_eq_true rfl) hk rfl (Nat.le_of_ble_eq_true rfl) dX10_chain_7 ?_
  refine GX_istore_n hC [some (.ref (gad Γ 62)), some (.int d1), some (.int r6), none, none, none, none, none, none, none] dX10_chain_10 (by decide) rfl rfl ?_
  refine GX_iload_n hC dX10_chain_11 rfl ?_
  refine GX_if_ge_N hC 17 dX10_chain_12 (by decide) (fun q => ?_) (fun q => ?_)
  · skip
    have h9 := ifP q h8
    refine GX_iload_n hC dX10_chain_15 rfl ?_
    exact GX_iretW hC hR dX10_chain_16 (oi h9)
  · skip
    have h10 := ifN q h8
    obtain ⟨c11, e12, h13⟩ := ob h10
    suffices hJ14 : GX Γ LAY 0 0 [some (.ref (gad Γ 62)), some (.int d1), some (.int r6), none, none, none, none, none, none, none] [.int (bI c11)] m3 35 by
      have hc15 : true = c11 → GX Γ LAY 0 0 [some (.ref (gad Γ 62)), some (.int d1), some (.int r6), none, none, none, none, none, none, none] [] m3 30 := by
        intro q
        subst q
        refine GX_iconst hC (bI true) dX10_chain_30 rfl ?_
        refine GX_goto hC 35 dX10_chain_31 (by decide) ?_
        exact hJ14
      have hc16 : false = c11 → GX Γ LAY 0 0 [some (.ref (gad Γ 62)), some (.int d1), some (.int r6), none, none, none, none, none, none, none] [] m3 34 := by
        intro q
        subst q
        refine GX_iconst hC (bI false) dX10_chain_34 rfl ?_
        exact hJ14
      refine GX_aload_n hC dX10_chain_17 rfl ?_
      refine GX_getR hC fkX10_89 ol_62 rfl dX10_chain_18 ?_
      refine GX_iload_n hC dX10_chain_21 rfl ?_
      obtain ⟨x17, e18, h19⟩ := ob e12
      refine GX_ldA hC e18 al_89 dX10_chain_22 ?_
      refine GX_aload_n hC dX10_chain_23 rfl ?_
      refine GX_getI hC fkX10_103 ol_62 rfl dX10_chain_24 ?_
      refine GX_icmp_ne_N hC 34 dX10_chain_27 (by decide) (fun q => ?_) (fun q => ?_)
      · skip
        exact hc15 (cdT q h19)
      · skip
        exact hc16 (cdF q h19)
    refine GX_istore_n hC [some (.ref (gad Γ 62)), some (.int d1), some (.int r6), some (.int (bI c11)), none, none, none, none, none, none] dX10_chain_35 (by decide) rfl rfl ?_
    refine GX_iconst hC 0 dX10_chain_36 rfl ?_
    refine GX_istore hC [some (.ref (gad Γ 62)), some (.int d1), some (.int r6), some (.int (bI c11)), some (.int 0), none, none, none, none, none] dX10_chain_37 (by decide) rfl rfl ?_
    obtain ⟨o20, e21, h22⟩ := ob h13
    suffices hJ23 : ∀ (good26 : Bool), good26 = o20 → GX Γ LAY 0 0 [some (.ref (gad Γ 62)), some (.int d1), some (.int r6), some (.int (bI good26)), none, none, none, none, none, none] [] m3 105 by
      refine lp_walk (P := fun s => GX Γ LAY 0 0 [some (.ref (gad Γ 62)), some (.int d1), some (.int r6), some (.int (bI s.1)), some (.int s.2), none, none, none, none, none] [] m3 39) (fun s x hx23 hI23 hO23 => ?_) _ _ e21
      obtain ⟨good24, f25⟩ := s
      show GX Γ LAY 0 0 [some (.ref (gad Γ 62)), some (.int d1), some (.int r6), some (.int (bI good24)), some (.int f25), none, none, none, none, none] [] m3 39
      dsimp only [M_chain_s1] at hx23
      obtain ⟨c27, e28, h29⟩ := ob hx23
      have hc30 : true = c27 → GX Γ LAY 0 0 [some (.ref (gad Γ 62)), some (.int d1), some (.int r6), some (.int (bI good24)), some (.int f25), none, none, none, none, none] [] m3 54 := by
        intro q
        have h31 := ifT q.symm h29
        refine GX_aload_n hC dX10_chain_54 rfl ?_
        refine GX_getR hC fkX10_92 ol_62 rfl dX10_chain_55 ?_
        refine GX_bipush hC 100 dX10_chain_58 rfl ?_
        refine GX_iload_n hC dX10_chain_60 rfl ?_
        refine GX_imul hC dX10_chain_61 ?_
        refine GX_iload hC dX10_chain_62 rfl ?_
        refine GX_iadd hC dX10_chain_64 ?_
        obtain ⟨x32, e33, h34⟩ := ob h31
        refine GX_ldL hC e33 al_90 dX10_chain_65 ?_
        refine GX_lstore hC [some (.ref (gad Γ 62)), some (.int d1), some (.int r6), some (.int (bI good24)), some (.int f25), some (.long x32), none, none, none, none] dX10_chain_66 (by decide) rfl rfl rfl ?_
        obtain ⟨c35, e36, h37⟩ := ob h34
        suffices hJ38 : GX Γ LAY 0 0 [some (.ref (gad Γ 62)), some (.int d1), some (.int r6), some (.int (bI good24)), some (.int f25), some (.long x32), none, none, none, none] [.int (bI c35)] m3 98 by
          have hc39 : true = c35 → GX Γ LAY 0 0 [some (.ref (gad Γ 62)), some (.int d1), some (.int r6), some (.int (bI good24)), some (.int f25), some (.long x32), none, none, none, none] [] m3 93 := by
            intro q
            subst q
            refine GX_iconst hC (bI true) dX10_chain_93 rfl ?_
            refine GX_goto hC 98 dX10_chain_94 (by decide) ?_
            exact hJ38
          have hc40 : false = c35 → GX Γ LAY 0 0 [some (.ref (gad Γ 62)), some (.int d1), some (.int r6), some (.int (bI good24)), some (.int f25), some (.long x32), none, none, none, none] [] m3 97 := by
            intro q
            subst q
            refine GX_iconst hC (bI false) dX10_chain_97 rfl ?_
            exact hJ38
          refine GX_lload hC dX10_chain_68 rfl ?_
          refine GX_lconst hC 0 dX10_chain_70 rfl ?_
          refine GX_aload_n hC dX10_chain_71 rfl ?_
          refine GX_getI hC fkX10_110 ol_62 rfl dX10_chain_72 ?_
          refine GX_iconst hC 1 dX10_chain_75 rfl ?_
          refine GX_isub hC dX10_chain_76 ?_
          refine GX_i2l hC dX10_chain_77 ?_
          obtain ⟨b41, e42, h43⟩ := ob e36
          refine GX_callS_i (st := []) hC (C_M_in e42) okX10_in lkX10_106 rfl (Nat.le_of_ble_eq_true rfl) (Nat.le_of_ble_eq_true rfl) hk rfl (Nat.le_of_ble_eq_true rfl) dX10_chain_78 ?_
          refine GX_ifb_ne hC 93 dX10_chain_81 (by decide) (fun q => ?_) (fun q => ?_)
          · skip
            have h44 := ifT q h43
            exact hc39 (oi h44)
          · skip
            have h45 := ifF q h43
            refine GX_lload hC dX10_chain_84 rfl ?_
            refine GX_ldc2 hC 9 kcX10_255 dX10_chain_86 ?_
            refine GX_lc_ne_N hC 97 dX10_chain_89 dX10_chain_90 (by decide) (fun q => ?_) (fun q => ?_)
            · skip
              exact hc39 (cdT q h45)
            · skip
              exact hc40 (cdF q h45)
        refine GX_istore_n hC [some (.ref (gad Γ 62)), some (.int d1), some (.int r6), some (.int (bI c35)), some (.int f25), some (.long x32), none, none, none, none] dX10_chain_98 (by decide) rfl rfl ?_
        obtain ⟨i46, e47, h48⟩ := ob h37
        refine GX_iinc hC i46 [some (.ref (gad Γ 62)), some (.int d1), some (.int r6), some (.int (bI c35)), some (.int i46), some (.long x32), none, none, none, none] dX10_chain_99 rfl (oi e47) (by decide) rfl rfl ?_
        refine GX_goto hC 39 dX10_chain_102 (by decide) ?_
        exact GX.le (hI23 _ (oi h48).symm) ⟨rfl, ⟨rfl, ⟨rfl, ⟨rfl, ⟨rfl, trivial⟩⟩⟩⟩⟩
      have hc49 : false = c27 → GX Γ LAY 0 0 [some (.ref (gad Γ 62)), some (.int d1), some (.int r6), some (.int (bI good24)), some (.int f25), none, none, none, none, none] [] m3 105 := by
        intro q
        have h50 := ifF q.symm h29
        exact GX.le (hJ23 _ (hO23 _ (oi h50).symm)) ⟨rfl, ⟨rfl, ⟨rfl, ⟨rfl, trivial⟩⟩⟩⟩
      refine GX_iload hC dX10_chain_39 rfl ?_
      refine GX_aload_n hC dX10_chain_41 rfl ?_
      refine GX_getR hC fkX10_89 ol_62 rfl dX10_chain_42 ?_
      refine GX_iload_n hC dX10_chain_45 rfl ?_
      obtain ⟨x51, e52, h53⟩ := ob e28
      refine GX_ldA hC e52 al_89 dX10_chain_46 ?_
      refine GX_icmp_ge_N hC 105 dX10_chain_47 (by decide) (fun q => ?_) (fun q => ?_)
      · skip
        have h54 := ifP q h53
        refine GX_iload_n hC dX10_chain_50 rfl ?_
        refine GX_ifb_eq hC 105 dX10_chain_51 (by decide) (fun q => ?_) (fun q => ?_)
        · skip
          exact hc30 (cbT q h54)
        · skip
          exact hc49 (cbF q h54)
      · skip
        have h55 := ifN q h53
        exact hc49 (oi h55)
    intro good26 q56
    subst q56
    refine GX_iload_n hC dX10_chain_105 rfl ?_
    refine GX_ifb_ne hC 112 dX10_chain_106 (by decide) (fun q => ?_) (fun q => ?_)
    · skip
      have h57 := ifT q h22
      refine GX_iconst hC 0 dX10_chain_112 rfl ?_
      refine GX_istore hC [some (.ref (gad Γ 62)), some (.int d1), some (.int r6), some (.int (bI good26)), some (.int 0), none, none, none, none, none] dX10_chain_113 (by decide) rfl rfl ?_
      obtain ⟨o58, e59, h60⟩ := ob h57
      suffices hJ61 : ∀ (m64 : MI), m64 = o58 → GX Γ LAY 0 0 [some (.ref (gad Γ 62)), some (.int d1), some (.int r6), some (.int (bI good26)), none, none, none, none, none, none] [] m64 169 by
        refine lp_walk (P := fun s => GX Γ LAY 0 0 [some (.ref (gad Γ 62)), some (.int d1), some (.int r6), some (.int (bI good26)), some (.int s.1), none, none, none, none, none] [] s.2 115) (fun s x hx61 hI61 hO61 => ?_) _ _ e59
        obtain ⟨f62, m63⟩ := s
        show GX Γ LAY 0 0 [some (.ref (gad Γ 62)), some (.int d1), some (.int r6), some (.int (bI good26)), some (.int f62), none, none, none, none, none] [] m63 115
        dsimp only [M_chain_s2] at hx61
        refine GX_iload hC dX10_chain_115 rfl ?_
        refine GX_aload_n hC dX10_chain_117 rfl ?_
        refine GX_getI hC fkX10_103 ol_62 rfl dX10_chain_118 ?_
        refine GX_icmp_ge_N hC 169 dX10_chain_121 (by decide) (fun q => ?_) (fun q => ?_)
        · skip
          have h65 := ifP q hx61
          refine GX_aload_n hC dX10_chain_124 rfl ?_
          refine GX_getR hC fkX10_92 ol_62 rfl dX10_chain_125 ?_
          refine GX_bipush hC 100 dX10_chain_128 rfl ?_
          refine GX_iload_n hC dX10_chain_130 rfl ?_
          refine GX_imul hC dX10_chain_131 ?_
          refine GX_iload hC dX10_chain_132 rfl ?_
          refine GX_iadd hC dX10_chain_134 ?_
          obtain ⟨x66, e67, h68⟩ := ob h65
          refine GX_ldL hC e67 al_90 dX10_chain_135 ?_
          refine GX_lstore hC [some (.ref (gad Γ 62)), some (.int d1), some (.int r6), some (.int (bI good26)), some (.int f62), some (.long x66), none, none, none, none] dX10_chain_136 (by decide) rfl rfl rfl ?_
          refine GX_aload_n hC dX10_chain_138 rfl ?_
          refine GX_getR hC fkX10_28 ol_62 rfl dX10_chain_139 ?_
          refine GX_iload hC dX10_chain_142 rfl ?_
          obtain ⟨x69, e70, h71⟩ := ob h68
          suffices hJ72 : GX Γ LAY 0 0 [some (.ref (gad Γ 62)), some (.int d1), some (.int r6), some (.int (bI good26)), some (.int f62), some (.long x66), none, none, none, none] [.int x69, .int f62, .ref (gad Γ 69)] m63 162 by
            refine GX_lload hC dX10_chain_144 rfl ?_
            refine GX_ldc2 hC 9 kcX10_255 dX10_chain_146 ?_
            refine GX_lc_ne_N hC 157 dX10_chain_149 dX10_chain_150 (by decide) (fun q => ?_) (fun q => ?_)
            · skip
              have h73 := ifP q e70
              refine GX_iconst hC 0 dX10_chain_153 rfl ?_
              refine GX_goto hC 162 dX10_chain_154 (by decide) ?_
              exact GX_nm (oi h73) hJ72
            · skip
              have h74 := ifN q e70
              refine GX_lload hC dX10_chain_157 rfl ?_
              refine GX_l2i hC dX10_chain_159 ?_
              refine GX_iconst hC 1 dX10_chain_160 rfl ?_
              refine GX_iadd hC dX10_chain_161 ?_
              exact GX_nm (oi h74) hJ72
          obtain ⟨m75, e76, h77⟩ := ob h71
          refine GX_stA hC e76 al_69 dX10_chain_162 ?_
          obtain ⟨i78, e79, h80⟩ := ob h77
          refine GX_iinc hC i78 [some (.ref (gad Γ 62)), some (.int d1), some (.int r6), some (.int (bI good26)), some (.int i78), some (.long x66), none, none, none, none] dX10_chain_163 rfl (oi e79) (by decide) rfl rfl ?_
          refine GX_goto hC 115 dX10_chain_166 (by decide) ?_
          exact GX.le (hI61 _ (oi h80).symm) ⟨rfl, ⟨rfl, ⟨rfl, ⟨rfl, ⟨rfl, trivial⟩⟩⟩⟩⟩
        · skip
          have h81 := ifN q hx61
          exact GX.le (hJ61 _ (hO61 _ (oi h81).symm)) ⟨rfl, ⟨rfl, ⟨rfl, ⟨rfl, trivial⟩⟩⟩⟩
      intro m64 q82
      subst q82
      refine GX_aload_n hC dX10_chain_169 rfl ?_
      obtain ⟨r83, e84, h85⟩ := ob h60
      refine GX_callV_i (st := []) hC (C_M_numberOf e84) okX10_numberOf lkX10_283 ol_62 rfl rfl (Nat.le_of_ble_eq_true rfl) (Nat.le_of_ble_eq_true rfl) hk rfl (Nat.le_of_ble_eq_true rfl) dX10_chain_170 ?_
      refine GX_istore hC [some (.ref (gad Γ 62)), some (.int d1), some (.int r6), some (.int (bI good26)), some (.int r83), none, none, none, none, none] dX10_chain_173 (by decide) rfl rfl ?_
      refine GX_iconst hC 0 dX10_chain_175 rfl ?_
      refine GX_istore hC [some (.ref (gad Γ 62)), some (.int d1), some (.int r6), some (.int (bI good26)), some (.int r83), some (.int 0), none, none, none, none] dX10_chain_176 (by decide) rfl rfl ?_
      obtain ⟨o86, e87, h88⟩ := ob h85
      suffices hJ89 : ∀ (m92 : MI), m92 = o86 → GX Γ LAY 0 0 [some (.ref (gad Γ 62)), some (.int d1), some (.int r6), some (.int (bI good26)), some (.int r83), none, none, none, none, none] [] m92 201 by
        refine lp_walk (P := fun s => GX Γ LAY 0 0 [some (.ref (gad Γ 62)), some (.int d1), some (.int r6), some (.int (bI good26)), some (.int r83), some (.int s.1), none, none, none, none] [] s.2 178) (fun s x hx89 hI89 hO89 => ?_) _ _ e87
        obtain ⟨k90, m91⟩ := s
        show GX Γ LAY 0 0 [some (.ref (gad Γ 62)), some (.int d1), some (.int r6), some (.int (bI good26)), some (.int r83), some (.int k90), none, none, none, none] [] m91 178
        dsimp only [M_chain_s3] at hx89
        refine GX_iload hC dX10_chain_178 rfl ?_
        refine GX_sipush hC 4096 dX10_chain_180 rfl ?_
        refine GX_icmp_ge_N hC 201 dX10_chain_183 (by decide) (fun q => ?_) (fun q => ?_)
        · skip
          have h93 := ifP q hx89
          refine GX_aload_n hC dX10_chain_186 rfl ?_
          refine GX_getR hC fkX10_52 ol_62 rfl dX10_chain_187 ?_
          refine GX_iload hC dX10_chain_190 rfl ?_
          refine GX_bipush hC (-4) dX10_chain_192 rfl ?_
          obtain ⟨m94, e95, h96⟩ := ob h93
          refine GX_stA hC e95 al_77 dX10_chain_194 ?_
          obtain ⟨i97, e98, h99⟩ := ob h96
          refine GX_iinc hC i97 [some (.ref (gad Γ 62)), some (.int d1), some (.int r6), some (.int (bI good26)), some (.int r83), some (.int i97), none, none, none, none] dX10_chain_195 rfl (oi e98) (by decide) rfl rfl ?_
          refine GX_goto hC 178 dX10_chain_198 (by decide) ?_
          exact hI89 _ (oi h99).symm
        · skip
          have h100 := ifN q hx89
          exact GX.le (hJ89 _ (hO89 _ (oi h100).symm)) ⟨rfl, ⟨rfl, ⟨rfl, ⟨rfl, ⟨rfl, trivial⟩⟩⟩⟩⟩
      intro m92 q101
      subst q101
      refine GX_aload_n hC dX10_chain_201 rfl ?_
      obtain ⟨m102, e103, h104⟩ := ob h88
      refine GX_callV_v (st := []) hC (C_M_takeNow e103) okX10_takeNow lkX10_204 ol_62 rfl rfl (Nat.le_of_ble_eq_true rfl) (Nat.le_of_ble_eq_true rfl) hk rfl (Nat.le_of_ble_eq_true rfl) dX10_chain_202 ?_
      refine GX_aload_n hC dX10_chain_205 rfl ?_
      refine GX_getR hC fkX10_55 ol_62 rfl dX10_chain_206 ?_
      refine GX_iconst hC 0 dX10_chain_209 rfl ?_
      refine GX_aload_n hC dX10_chain_210 rfl ?_
      obtain ⟨r105, e106, h107⟩ := ob h104
      refine GX_callV_i (st := [.int 0, .ref (gad Γ 78)]) hC (C_M_numberOf e106) okX10_numberOf lkX10_283 ol_62 rfl rfl (Nat.le_of_ble_eq_true rfl) (Nat.le_of_ble_eq_true rfl) hk rfl (Nat.le_of_ble_eq_true rfl) dX10_chain_211 ?_
      obtain ⟨m108, e109, h110⟩ := ob h107
      refine GX_stA hC e109 al_78 dX10_chain_214 ?_
      refine GX_aload_n hC dX10_chain_215 rfl ?_
      refine GX_getR hC fkX10_52 ol_62 rfl dX10_chain_216 ?_
      refine GX_aload_n hC dX10_chain_219 rfl ?_
      refine GX_getR hC fkX10_55 ol_62 rfl dX10_chain_220 ?_
      refine GX_iconst hC 0 dX10_chain_223 rfl ?_
      obtain ⟨x111, e112, h113⟩ := ob h110
      refine GX_ldA hC e112 al_78 dX10_chain_224 ?_
      refine GX_iconst hC 0 dX10_chain_225 rfl ?_
      obtain ⟨m114, e115, h116⟩ := ob h113
      refine GX_stA hC e115 al_77 dX10_chain_226 ?_
      refine GX_iconst hC 1 dX10_chain_227 rfl ?_
      refine GX_istore hC [some (.ref (gad Γ 62)), some (.int d1), some (.int r6), some (.int (bI good26)), some (.int r83), some (.int 1), none, none, none, none] dX10_chain_228 (by decide) rfl rfl ?_
      refine GX_iconst hC 0 dX10_chain_230 rfl ?_
      refine GX_istore hC [some (.ref (gad Γ 62)), some (.int d1), some (.int r6), some (.int (bI good26)), some (.int r83), some (.int 1), some (.int 0), none, none, none] dX10_chain_231 (by decide) rfl rfl ?_
      obtain ⟨o117, e118, h119⟩ := ob h116
      suffices hJ120 : ∀ (n124 : Int32) (m125 : MI), (n124, m125) = o117 → GX Γ LAY 0 0 [some (.ref (gad Γ 62)), some (.int d1), some (.int r6), some (.int (bI good26)), some (.int r83), some (.int n124), none, none, none, none] [] m125 409 by
        refine lp_walk (P := fun s => GX Γ LAY 0 0 [some (.ref (gad Γ 62)), some (.int d1), some (.int r6), some (.int (bI good26)), some (.int r83), some (.int s.1), some (.int s.2.1), none, none, none] [] s.2.2 233) (fun s x hx120 hI120 hO120 => ?_) _ _ e118
        obtain ⟨n121, k122, m123⟩ := s
        show GX Γ LAY 0 0 [some (.ref (gad Γ 62)), some (.int d1), some (.int r6), some (.int (bI good26)), some (.int r83), some (.int n121), some (.int k122), none, none, none] [] m123 233
        dsimp only [M_chain_s4] at hx120
        obtain ⟨c126, e127, h128⟩ := ob hx120
        have hc129 : true = c126 → GX Γ LAY 0 0 [some (.ref (gad Γ 62)), some (.int d1), some (.int r6), some (.int (bI good26)), some (.int r83), some (.int n121), some (.int k122), none, none, none] [] m123 250 := by
          intro q
          have h130 := ifT q.symm h128
          refine GX_iconst hC 0 dX10_chain_250 rfl ?_
          refine GX_istore hC [some (.ref (gad Γ 62)), some (.int d1), some (.int r6), some (.int (bI good26)), some (.int r83), some (.int n121), some (.int k122), some (.int 0), none, none] dX10_chain_251 (by decide) rfl rfl ?_
          obtain ⟨o131, e132, h133⟩ := ob h130
          suffices hJ134 : ∀ (n138 : Int32) (m139 : MI), (n138, m139) = o131 → GX Γ LAY 0 0 [some (.ref (gad Γ 62)), some (.int d1), some (.int r6), some (.int (bI good26)), some (.int r83), some (.int n138), some (.int k122), none, none, none] [] m139 403 by
            refine lp_walk (P := fun s => GX Γ LAY 0 0 [some (.ref (gad Γ 62)), some (.int d1), some (.int r6), some (.int (bI good26)), some (.int r83), some (.int s.1), some (.int k122), some (.int s.2.1), none, none] [] s.2.2 253) (fun s x hx134 hI134 hO134 => ?_) _ _ e132
            obtain ⟨n135, f136, m137⟩ := s
            show GX Γ LAY 0 0 [some (.ref (gad Γ 62)), some (.int d1), some (.int r6), some (.int (bI good26)), some (.int r83), some (.int n135), some (.int k122), some (.int f136), none, none] [] m137 253
            dsimp only [M_chain_s5] at hx134
            refine GX_iload hC dX10_chain_253 rfl ?_
            refine GX_aload_n hC dX10_chain_255 rfl ?_
            refine GX_getI hC fkX10_103 ol_62 rfl dX10_chain_256 ?_
            refine GX_icmp_ge_N hC 403 dX10_chain_259 (by decide) (fun q => ?_) (fun q => ?_)
            · skip
              have h140 := ifP q hx134
              refine GX_iconst hC 0 dX10_chain_262 rfl ?_
              refine GX_istore hC [some (.ref (gad Γ 62)), some (.int d1), some (.int r6), some (.int (bI good26)), some (.int r83), some (.int n135), some (.int k122), some (.int f136), some (.int 0), none] dX10_chain_263 (by decide) rfl rfl ?_
              obtain ⟨o141, e142, h143⟩ := ob h140
              suffices hJ144 : ∀ (n148 : Int32) (m149 : MI), (n148, m149) = o141 → GX Γ LAY 0 0 [some (.ref (gad Γ 62)), some (.int d1), some (.int r6), some (.int (bI good26)), some (.int r83), some (.int n148), some (.int k122), some (.int f136), none, none] [] m149 397 by
                refine lp_walk (P := fun s => GX Γ LAY 0 0 [some (.ref (gad Γ 62)), some (.int d1), some (.int r6), some (.int (bI good26)), some (.int r83), some (.int s.1), some (.int k122), some (.int f136), some (.int s.2.1), none] [] s.2.2 265) (fun s x hx144 hI144 hO144 => ?_) _ _ e142
                obtain ⟨n145, p146, m147⟩ := s
                show GX Γ LAY 0 0 [some (.ref (gad Γ 62)), some (.int d1), some (.int r6), some (.int (bI good26)), some (.int r83), some (.int n145), some (.int k122), some (.int f136), some (.int p146), none] [] m147 265
                dsimp only [M_chain_s6] at hx144
                refine GX_iload hC dX10_chain_265 rfl ?_
                refine GX_aload_n hC dX10_chain_267 rfl ?_
                refine GX_getI hC fkX10_110 ol_62 rfl dX10_chain_268 ?_
                refine GX_icmp_gt_N hC 397 dX10_chain_271 (by decide) (fun q => ?_) (fun q => ?_)
                · skip
                  have h150 := ifP q hx144
                  refine GX_aload_n hC dX10_chain_274 rfl ?_
                  refine GX_aload_n hC dX10_chain_275 rfl ?_
                  refine GX_getR hC fkX10_55 ol_62 rfl dX10_chain_276 ?_
                  refine GX_iload hC dX10_chain_279 rfl ?_
                  obtain ⟨x151, e152, h153⟩ := ob h150
                  refine GX_ldA hC e152 al_78 dX10_chain_281 ?_
                  refine GX_aload_n hC dX10_chain_282 rfl ?_
                  refine GX_getI hC fkX10_110 ol_62 rfl dX10_chain_283 ?_
                  refine GX_iconst hC 1 dX10_chain_286 rfl ?_
                  refine GX_iadd hC dX10_chain_287 ?_
                  obtain ⟨m154, e155, h156⟩ := ob h153
                  refine GX_callV_v (st := []) hC (C_M_spread e155) okX10_spread lkX10_261 ol_62 rfl rfl (Nat.le_of_ble_eq_true rfl) (Nat.le_of_ble_eq_true rfl) hk rfl (Nat.le_of_ble_eq_true rfl) dX10_chain_288 ?_
                  refine GX_iconst hC 0 dX10_chain_291 rfl ?_
                  refine GX_istore hC [some (.ref (gad Γ 62)), some (.int d1), some (.int r6), some (.int (bI good26)), some (.int r83), some (.int n145), some (.int k122), some (.int f136), some (.int p146), some (.int 0)] dX10_chain_292 (by decide) rfl rfl ?_
                  obtain ⟨o157, e158, h159⟩ := ob h156
                  suffices hJ160 : ∀ (m163 : MI), m163 = o157 → GX Γ LAY 0 0 [some (.ref (gad Γ 62)), some (.int d1), some (.int r6), some (.int (bI good26)), some (.int r83), some (.int n145), some (.int k122), some (.int f136), some (.int p146), none] [] m163 335 by
                    refine lp_walk (P := fun s => GX Γ LAY 0 0 [some (.ref (gad Γ 62)), some (.int d1), some (.int r6), some (.int (bI good26)), some (.int r83), some (.int n145), some (.int k122), some (.int f136), some (.int p146), some (.int s.1)] [] s.2 294) (fun s x hx160 hI160 hO160 => ?_) _ _ e158
                    obtain ⟨i161, m162⟩ := s
                    show GX Γ LAY 0 0 [some (.ref (gad Γ 62)), some (.int d1), some (.int r6), some (.int (bI good26)), some (.int r83), some (.int n145), some (.int k122), some (.int f136), some (.int p146), some (.int i161)] [] m162 294
                    dsimp only [M_chain_s7] at hx160
                    refine GX_iload hC dX10_chain_294 rfl ?_
                    refine GX_aload_n hC dX10_chain_296 rfl ?_
                    refine GX_getI hC fkX10_103 ol_62 rfl dX10_chain_297 ?_
                    refine GX_icmp_ge_N hC 335 dX10_chain_300 (by decide) (fun q => ?_) (fun q => ?_)
                    · skip
                      have h164 := ifP q hx160
                      refine GX_aload_n hC dX10_chain_303 rfl ?_
                      refine GX_getR hC fkX10_28 ol_62 rfl dX10_chain_304 ?_
                      refine GX_iload hC dX10_chain_307 rfl ?_
                      obtain ⟨x165, e166, h167⟩ := ob h164
                      suffices hJ168 : GX Γ LAY 0 0 [some (.ref (gad Γ 62)), some (.int d1), some (.int r6), some (.int (bI good26)), some (.int r83), some (.int n145), some (.int k122), some (.int f136), some (.int p146), some (.int i161)] [.int x165, .int i161, .ref (gad Γ 69)] m162 328 by
                        refine GX_iload hC dX10_chain_309 rfl ?_
                        refine GX_iload hC dX10_chain_311 rfl ?_
                        refine GX_icmp_ne_N hC 321 dX10_chain_313 (by decide) (fun q => ?_) (fun q => ?_)
                        · skip
                          have h169 := ifP q e166
                          refine GX_iload hC dX10_chain_316 rfl ?_
                          refine GX_goto hC 328 dX10_chain_318 (by decide) ?_
                          exact GX_nm (oi h169) hJ168
                        · skip
                          have h170 := ifN q e166
                          refine GX_aload_n hC dX10_chain_321 rfl ?_
                          refine GX_getR hC fkX10_49 ol_62 rfl dX10_chain_322 ?_
                          refine GX_iload hC dX10_chain_325 rfl ?_
                          obtain ⟨x171, e172, h173⟩ := ob h170
                          refine GX_ldA hC e172 al_76 dX10_chain_327 ?_
                          exact GX_nm (oi h173) hJ168
                      obtain ⟨m174, e175, h176⟩ := ob h167
                      refine GX_stA hC e175 al_69 dX10_chain_328 ?_
                      obtain ⟨i177, e178, h179⟩ := ob h176
                      refine GX_iinc hC i177 [some (.ref (gad Γ 62)), some (.int d1), some (.int r6), some (.int (bI good26)), some (.int r83), some (.int n145), some (.int k122), some (.int f136), some (.int p146), some (.int i177)] dX10_chain_329 rfl (oi e178) (by decide) rfl rfl ?_
                      refine GX_goto hC 294 dX10_chain_332 (by decide) ?_
                      exact hI160 _ (oi h179).symm
                    · skip
                      have h180 := ifN q hx160
                      exact GX.le (hJ160 _ (hO160 _ (oi h180).symm)) ⟨rfl, ⟨rfl, ⟨rfl, ⟨rfl, ⟨rfl, ⟨rfl, ⟨rfl, ⟨rfl, ⟨rfl, trivial⟩⟩⟩⟩⟩⟩⟩⟩⟩
                  intro m163 q181
                  subst q181
                  refine GX_aload_n hC dX10_chain_335 rfl ?_
                  obtain ⟨r182, e183, h184⟩ := ob h159
                  refine GX_callV_i (st := []) hC (C_M_numberOf e183) okX10_numberOf lkX10_283 ol_62 rfl rfl (Nat.le_of_ble_eq_true rfl) (Nat.le_of_ble_eq_true rfl) hk rfl (Nat.le_of_ble_eq_true rfl) dX10_chain_336 ?_
                  refine GX_istore hC [some (.ref (gad Γ 62)), some (.int d1), some (.int r6), some (.int (bI good26)), some (.int r83), some (.int n145), some (.int k122), some (.int f136), some (.int p146), some (.int r182)] dX10_chain_339 (by decide) rfl rfl ?_
                  obtain ⟨o185, e186, h187⟩ := ob h184
                  suffices hJ190 : ∀ (n188 : Int32) (m189 : MI), (n188, m189) = o185 → GX Γ LAY 0 0 [some (.ref (gad Γ 62)), some (.int d1), some (.int r6), some (.int (bI good26)), some (.int r83), some (.int n188), some (.int k122), some (.int f136), some (.int p146), some (.int r182)] [] m189 391 by
                    obtain ⟨c191, e192, h193⟩ := ob e186
                    have hc194 : true = c191 → GX Γ LAY 0 0 [some (.ref (gad Γ 62)), some (.int d1), some (.int r6), some (.int (bI good26)), some (.int r83), some (.int n145), some (.int k122), some (.int f136), some (.int p146), some (.int r182)] [] m163 358 := by
                      intro q
                      have h195 := ifT q.symm h193
                      refine GX_aload_n hC dX10_chain_358 rfl ?_
                      refine GX_getR hC fkX10_52 ol_62 rfl dX10_chain_359 ?_
                      refine GX_iload hC dX10_chain_362 rfl ?_
                      refine GX_aload_n hC dX10_chain_364 rfl ?_
                      refine GX_getR hC fkX10_52 ol_62 rfl dX10_chain_365 ?_
                      refine GX_aload_n hC dX10_chain_368 rfl ?_
                      refine GX_getR hC fkX10_55 ol_62 rfl dX10_chain_369 ?_
                      refine GX_iload hC dX10_chain_372 rfl ?_
                      obtain ⟨x196, e197, h198⟩ := ob h195
                      refine GX_ldA hC e197 al_78 dX10_chain_374 ?_
                      obtain ⟨x199, e200, h201⟩ := ob h198
                      refine GX_ldA hC e200 al_77 dX10_chain_375 ?_
                      refine GX_iconst hC 1 dX10_chain_376 rfl ?_
                      refine GX_iadd hC dX10_chain_377 ?_
                      obtain ⟨m202, e203, h204⟩ := ob h201
                      refine GX_stA hC e203 al_77 dX10_chain_378 ?_
                      refine GX_aload_n hC dX10_chain_379 rfl ?_
                      refine GX_getR hC fkX10_55 ol_62 rfl dX10_chain_380 ?_
                      refine GX_iload hC dX10_chain_383 rfl ?_
                      refine GX_iload hC dX10_chain_385 rfl ?_
                      obtain ⟨m205, e206, h207⟩ := ob h204
                      refine GX_stA hC e206 al_78 dX10_chain_387 ?_
                      obtain ⟨i208, e209, h210⟩ := ob h207
                      refine GX_iinc hC i208 [some (.ref (gad Γ 62)), some (.int d1), some (.int r6), some (.int (bI good26)), some (.int r83), some (.int i208), some (.int k122), some (.int f136), some (.int p146), some (.int r182)] dX10_chain_388 rfl (oi e209) (by decide) rfl rfl ?_
                      exact (hJ190 _ _ (oi h210))
                    have hc211 : false = c191 → GX Γ LAY 0 0 [some (.ref (gad Γ 62)), some (.int d1), some (.int r6), some (.int (bI good26)), some (.int r83), some (.int n145), some (.int k122), some (.int f136), some (.int p146), some (.int r182)] [] m163 391 := by
                      intro q
                      have h212 := ifF q.symm h193
                      exact (hJ190 _ _ (oi h212))
                    refine GX_aload_n hC dX10_chain_341 rfl ?_
                    refine GX_getR hC fkX10_52 ol_62 rfl dX10_chain_342 ?_
                    refine GX_iload hC dX10_chain_345 rfl ?_
                    obtain ⟨x213, e214, h215⟩ := ob e192
                    refine GX_ldA hC e214 al_77 dX10_chain_347 ?_
                    refine GX_if_ge_N hC 391 dX10_chain_348 (by decide) (fun q => ?_) (fun q => ?_)
                    · skip
                      have h216 := ifP q h215
                      refine GX_aload_n hC dX10_chain_351 rfl ?_
                      obtain ⟨b217, e218, h219⟩ := ob h216
                      refine GX_callV_i (st := []) hC (C_M_isFine e218) okX10_isFine lkX10_210 ol_62 rfl rfl (Nat.le_of_ble_eq_true rfl) (Nat.le_of_ble_eq_true rfl) hk rfl (Nat.le_of_ble_eq_true rfl) dX10_chain_352 ?_
                      refine GX_ifb_eq hC 391 dX10_chain_355 (by decide) (fun q => ?_) (fun q => ?_)
                      · skip
                        exact hc194 (cbT q h219)
                      · skip
                        exact hc211 (cbF q h219)
                    · skip
                      have h220 := ifN q h215
                      exact hc211 (oi h220)
                  intro n188 m189 q221
                  subst q221
                  obtain ⟨i222, e223, h224⟩ := ob h187
                  refine GX_iinc hC i222 [some (.ref (gad Γ 62)), some (.int d1), some (.int r6), some (.int (bI good26)), some (.int r83), some (.int n188), some (.int k122), some (.int f136), some (.int i222), some (.int r182)] dX10_chain_391 rfl (oi e223) (by decide) rfl rfl ?_
                  refine GX_goto hC 265 dX10_chain_394 (by decide) ?_
                  exact GX.le (hI144 _ (oi h224).symm) ⟨rfl, ⟨rfl, ⟨rfl, ⟨rfl, ⟨rfl, ⟨rfl, ⟨rfl, ⟨rfl, ⟨rfl, trivial⟩⟩⟩⟩⟩⟩⟩⟩⟩
                · skip
                  have h225 := ifN q hx144
                  exact GX.le (hJ144 _ _ (hO144 _ (oi h225).symm)) ⟨rfl, ⟨rfl, ⟨rfl, ⟨rfl, ⟨rfl, ⟨rfl, ⟨rfl, ⟨rfl, trivial⟩⟩⟩⟩⟩⟩⟩⟩
              intro n148 m149 q226
              subst q226
              obtain ⟨i227, e228, h229⟩ := ob h143
              refine GX_iinc hC i227 [some (.ref (gad Γ 62)), some (.int d1), some (.int r6), some (.int (bI good26)), some (.int r83), some (.int n148), some (.int k122), some (.int i227), none, none] dX10_chain_397 rfl (oi e228) (by decide) rfl rfl ?_
              refine GX_goto hC 253 dX10_chain_400 (by decide) ?_
              exact hI134 _ (oi h229).symm
            · skip
              have h230 := ifN q hx134
              exact GX.le (hJ134 _ _ (hO134 _ (oi h230).symm)) ⟨rfl, ⟨rfl, ⟨rfl, ⟨rfl, ⟨rfl, ⟨rfl, ⟨rfl, trivial⟩⟩⟩⟩⟩⟩⟩
          intro n138 m139 q231
          subst q231
          obtain ⟨i232, e233, h234⟩ := ob h133
          refine GX_iinc hC i232 [some (.ref (gad Γ 62)), some (.int d1), some (.int r6), some (.int (bI good26)), some (.int r83), some (.int n138), some (.int i232), none, none, none] dX10_chain_403 rfl (oi e233) (by decide) rfl rfl ?_
          refine GX_goto hC 233 dX10_chain_406 (by decide) ?_
          exact hI120 _ (oi h234).symm
        have hc235 : false = c126 → GX Γ LAY 0 0 [some (.ref (gad Γ 62)), some (.int d1), some (.int r6), some (.int (bI good26)), some (.int r83), some (.int n121), some (.int k122), none, none, none] [] m123 409 := by
          intro q
          have h236 := ifF q.symm h128
          exact GX.le (hJ120 _ _ (hO120 _ (oi h236).symm)) ⟨rfl, ⟨rfl, ⟨rfl, ⟨rfl, ⟨rfl, ⟨rfl, trivial⟩⟩⟩⟩⟩⟩
        refine GX_iload hC dX10_chain_233 rfl ?_
        refine GX_iload hC dX10_chain_235 rfl ?_
        refine GX_icmp_ge_N hC 409 dX10_chain_237 (by decide) (fun q => ?_) (fun q => ?_)
        · skip
          have h237 := ifP q e127
          refine GX_aload_n hC dX10_chain_240 rfl ?_
          refine GX_getR hC fkX10_52 ol_62 rfl dX10_chain_241 ?_
          refine GX_iload hC dX10_chain_244 rfl ?_
          obtain ⟨x238, e239, h240⟩ := ob h237
          refine GX_ldA hC e239 al_77 dX10_chain_246 ?_
          refine GX_if_ge_N hC 409 dX10_chain_247 (by decide) (fun q => ?_) (fun q => ?_)
          · skip
            exact hc129 (cdT q h240)
          · skip
            exact hc235 (cdF q h240)
        · skip
          have h241 := ifN q e127
          exact hc235 (oi h241)
      intro n124 m125 q242
      subst q242
      refine GX_aload_n hC dX10_chain_409 rfl ?_
      refine GX_getR hC fkX10_52 ol_62 rfl dX10_chain_410 ?_
      refine GX_iload hC dX10_chain_413 rfl ?_
      obtain ⟨x243, e244, h245⟩ := ob h119
      refine GX_ldA hC e244 al_77 dX10_chain_415 ?_
      exact GX_iretW hC hR dX10_chain_416 (oi h245)
    · skip
      have h246 := ifF q h22
      refine GX_bipush hC (-13) dX10_chain_109 rfl ?_
      exact GX_iretW hC hR dX10_chain_111 (oi h246)
set_option maxRecDepth 100000 in
set_option maxHeartbeats 4000000 in
theorem C_M_flood {l : Launch} {a1 : Int32} {b2 : Int32} {m3 : MI} {r0 : Int32} {mr : MI}  (hf : M_flood a1 b2 m3 = some (r0, mr)) : Cn l yX10_flood cX10_flood 10 (some .int) 3 LAY (fun ad => .ref (ad 62) :: [.int a1, .int b2]) m3 (fun _ => some (.int r0)) mr := by
  refine Cn.of (fun ad => [some (.ref (ad 62)), some (.int a1), some (.int b2), none, none, none, none, none, none, none]) (by decide +kernel) (fun _ => rfl) (fun _ => Nat.le_of_ble_eq_true rfl) (fun Γ hl hC hR hk => ?_)
  subst hl
  replace hC : CX Γ cX10_flood RX10 LAY 3 10 := hC
  dsimp only [M_flood] at hf
  refine GX_aload_n hC dX10_flood_0 rfl ?_
  refine GX_iconst hC 0 dX10_flood_1 rfl ?_
  obtain ⟨m4, e5, h6⟩ := ob hf
  refine GX_stF hC e5 fkX10_99 ftX10_10 ol_62 rfl dX10_flood_2 ?_
  obtain ⟨c7, e8, h9⟩ := ob h6
  have hc10 : true = c7 → GX Γ LAY 0 0 [some (.ref (gad Γ 62)), some (.int a1), some (.int b2), none, none, none, none, none, none, none] [] m4 26 := by
    intro q
    have h11 := ifT q.symm h9
    refine GX_iconst hC (-1) dX10_flood_26 rfl ?_
    exact GX_iretW hC hR dX10_flood_27 (oi h11)
  have hc12 : false = c7 → GX Γ LAY 0 0 [some (.ref (gad Γ 62)), some (.int a1), some (.int b2), none, none, none, none, none, none, none] [] m4 28 := by
    intro q
    have h13 := ifF q.symm h9
    refine GX_aload_n hC dX10_flood_28 rfl ?_
    refine GX_getR hC fkX10_13 ol_62 rfl dX10_flood_29 ?_
    refine GX_bipush hC 6 dX10_flood_32 rfl ?_
    refine GX_iload_n hC dX10_flood_34 rfl ?_
    refine GX_imul hC dX10_flood_35 ?_
    refine GX_iload_n hC dX10_flood_36 rfl ?_
    refine GX_iadd hC dX10_flood_37 ?_
    obtain ⟨x14, e15, h16⟩ := ob h13
    refine GX_ldA hC e15 al_64 dX10_flood_38 ?_
    refine GX_istore_n hC [some (.ref (gad Γ 62)), some (.int a1), some (.int b2), some (.int x14), none, none, none, none, none, none] dX10_flood_39 (by decide) rfl rfl ?_
    refine GX_aload_n hC dX10_flood_40 rfl ?_
    refine GX_getR hC fkX10_13 ol_62 rfl dX10_flood_41 ?_
    refine GX_bipush hC 6 dX10_flood_44 rfl ?_
    refine GX_iload_n hC dX10_flood_46 rfl ?_
    refine GX_imul hC dX10_flood_47 ?_
    refine GX_iload_n hC dX10_flood_48 rfl ?_
    refine GX_iadd hC dX10_flood_49 ?_
    refine GX_iconst hC 1 dX10_flood_50 rfl ?_
    obtain ⟨m17, e18, h19⟩ := ob h16
    refine GX_stA hC e18 al_64 dX10_flood_51 ?_
    refine GX_aload_n hC dX10_flood_52 rfl ?_
    refine GX_getR hC fkX10_13 ol_62 rfl dX10_flood_53 ?_
    refine GX_bipush hC 6 dX10_flood_56 rfl ?_
    refine GX_iload_n hC dX10_flood_58 rfl ?_
    refine GX_imul hC dX10_flood_59 ?_
    refine GX_iload_n hC dX10_flood_60 rfl ?_
    refine GX_iadd hC dX10_flood_61 ?_
    refine GX_iconst hC 1 dX10_flood_62 rfl ?_
    obtain ⟨m20, e21, h22⟩ := ob h19
    refine GX_stA hC e21 al_64 dX10_flood_63 ?_
    refine GX_iconst hC (-1) dX10_flood_64 rfl ?_
    refine GX_istore hC [some (.ref (gad Γ 62)), some (.int a1), some (.int b2), some (.int x14), some (.int (-1)), none, none, none, none, none] dX10_flood_65 (by decide) rfl rfl ?_
    refine GX_iconst hC 0 dX10_flood_67 rfl ?_
    refine GX_istore hC [some (.ref (gad Γ 62)), some (.int a1), some (.int b2), some (.int x14), some (.int (-1)), some (.int 0), none, none, none, none] dX10_flood_68 (by decide) rfl rfl ?_
    refine GX_iconst hC 0 dX10_flood_70 rfl ?_
    refine GX_istore hC [some (.ref (gad Γ 62)), some (.int a1), some (.int b2), some (.int x14), some (.int (-1)), some (.int 0), some (.int 0), none, none, none] dX10_flood_71 (by decide) rfl rfl ?_
    obtain ⟨o23, e24, h25⟩ := ob h22
    suffices hJ26 : ∀ (best31 : Int32) (least32 : Int32) (m33 : MI), (best31, least32, m33) = o23 → GX Γ LAY 0 0 [some (.ref (gad Γ 62)), some (.int a1), some (.int b2), some (.int x14), some (.int best31), some (.int least32), none, none, none, none] [] m33 230 by
      refine lp_walk (P := fun s => GX Γ LAY 0 0 [some (.ref (gad Γ 62)), some (.int a1), some (.int b2), some (.int x14), some (.int s.1), some (.int s.2.1), some (.int s.2.2.1), none, none, none] [] s.2.2.2 73) (fun s x hx26 hI26 hO26 => ?_) _ _ e24
      obtain ⟨best27, least28, set29, m30⟩ := s
      show GX Γ LAY 0 0 [some (.ref (gad Γ 62)), some (.int a1), some (.int b2), some (.int x14), some (.int best27), some (.int least28), some (.int set29), none, none, none] [] m30 73
      dsimp only [M_flood_s1] at hx26
      refine GX_iload hC dX10_flood_73 rfl ?_
      refine GX_iconst hC 1 dX10_flood_75 rfl ?_
      refine GX_aload_n hC dX10_flood_76 rfl ?_
      refine GX_getI hC fkX10_103 ol_62 rfl dX10_flood_77 ?_
      refine GX_ishl hC dX10_flood_80 ?_
      refine GX_icmp_ge_N hC 230 dX10_flood_81 (by decide) (fun q => ?_) (fun q => ?_)
      · skip
        have h34 := ifP q hx26
        refine GX_iconst hC (bI true) dX10_flood_84 rfl ?_
        refine GX_istore hC [some (.ref (gad Γ 62)), some (.int a1), some (.int b2), some (.int x14), some (.int best27), some (.int least28), some (.int set29), some (.int (bI true)), none, none] dX10_flood_85 (by decide) rfl rfl ?_
        refine GX_iconst hC 0 dX10_flood_87 rfl ?_
        refine GX_istore hC [some (.ref (gad Γ 62)), some (.int a1), some (.int b2), some (.int x14), some (.int best27), some (.int least28), some (.int set29), some (.int (bI true)), some (.int 0), none] dX10_flood_88 (by decide) rfl rfl ?_
        refine GX_aload_n hC dX10_flood_90 rfl ?_
        obtain ⟨m35, e36, h37⟩ := ob h34
        refine GX_callV_v (st := []) hC (C_M_takeNow e36) okX10_takeNow lkX10_204 ol_62 rfl rfl (Nat.le_of_ble_eq_true rfl) (Nat.le_of_ble_eq_true rfl) hk rfl (Nat.le_of_ble_eq_true rfl) dX10_flood_91 ?_
        refine GX_iconst hC 0 dX10_flood_94 rfl ?_
        refine GX_istore hC [some (.ref (gad Γ 62)), some (.int a1), some (.int b2), some (.int x14), some (.int best27), some (.int least28), some (.int set29), some (.int (bI true)), some (.int 0), some (.int 0)] dX10_flood_95 (by decide) rfl rfl ?_
        obtain ⟨o38, e39, h40⟩ := ob h37
        suffices hJ41 : ∀ (owned46 : Bool) (lost47 : Int32) (m48 : MI), (owned46, lost47, m48) = o38 → GX Γ LAY 0 0 [some (.ref (gad Γ 62)), some (.int a1), some (.int b2), some (.int x14), some (.int best27), some (.int least28), some (.int set29), some (.int (bI owned46)), some (.int lost47), none] [] m48 192 by
          refine lp_walk (P := fun s => GX Γ LAY 0 0 [some (.ref (gad Γ 62)), some (.int a1), some (.int b2), some (.int x14), some (.int best27), some (.int least28), some (.int set29), some (.int (bI s.1)), some (.int s.2.1), some (.int s.2.2.1)] [] s.2.2.2 97) (fun s x hx41 hI41 hO41 => ?_) _ _ e39
          obtain ⟨owned42, lost43, f44, m45⟩ := s
          show GX Γ LAY 0 0 [some (.ref (gad Γ 62)), some (.int a1), some (.int b2), some (.int x14), some (.int best27), some (.int least28), some (.int set29), some (.int (bI owned42)), some (.int lost43), some (.int f44)] [] m45 97
          dsimp only [M_flood_s2] at hx41
          refine GX_iload hC dX10_flood_97 rfl ?_
          refine GX_aload_n hC dX10_flood_99 rfl ?_
          refine GX_getI hC fkX10_103 ol_62 rfl dX10_flood_100 ?_
          refine GX_icmp_ge_N hC 192 dX10_flood_103 (by decide) (fun q => ?_) (fun q => ?_)
          · skip
            have h49 := ifP q hx41
            obtain ⟨o50, e51, h52⟩ := ob h49
            suffices hJ56 : ∀ (owned53 : Bool) (lost54 : Int32) (m55 : MI), (owned53, lost54, m55) = o50 → GX Γ LAY 0 0 [some (.ref (gad Γ 62)), some (.int a1), some (.int b2), some (.int x14), some (.int best27), some (.int least28), some (.int set29), some (.int (bI owned53)), some (.int lost54), some (.int f44)] [] m55 186 by
              refine GX_iload hC dX10_flood_106 rfl ?_
              refine GX_iload hC dX10_flood_108 rfl ?_
              refine GX_ishr hC dX10_flood_110 ?_
              refine GX_iconst hC 1 dX10_flood_111 rfl ?_
              refine GX_iand hC dX10_flood_112 ?_
              refine GX_iconst hC 1 dX10_flood_113 rfl ?_
              refine GX_icmp_ne_N hC 186 dX10_flood_114 (by decide) (fun q => ?_) (fun q => ?_)
              · skip
                have h57 := ifP q e51
                obtain ⟨c58, e59, h60⟩ := ob h57
                suffices hJ61 : GX Γ LAY 0 0 [some (.ref (gad Γ 62)), some (.int a1), some (.int b2), some (.int x14), some (.int best27), some (.int least28), some (.int set29), some (.int (bI owned42)), some (.int lost43), some (.int f44)] [.int (bI c58)] m45 137 by
                  have hc62 : true = c58 → GX Γ LAY 0 0 [some (.ref (gad Γ 62)), some (.int a1), some (.int b2), some (.int x14), some (.int best27), some (.int least28), some (.int set29), some (.int (bI owned42)), some (.int lost43), some (.int f44)] [] m45 132 := by
                    intro q
                    subst q
                    refine GX_iconst hC (bI true) dX10_flood_132 rfl ?_
                    refine GX_goto hC 137 dX10_flood_133 (by decide) ?_
                    exact hJ61
                  have hc63 : false = c58 → GX Γ LAY 0 0 [some (.ref (gad Γ 62)), some (.int a1), some (.int b2), some (.int x14), some (.int best27), some (.int least28), some (.int set29), some (.int (bI owned42)), some (.int lost43), some (.int f44)] [] m45 136 := by
                    intro q
                    subst q
                    refine GX_iconst hC (bI false) dX10_flood_136 rfl ?_
                    exact hJ61
                  refine GX_iload hC dX10_flood_117 rfl ?_
                  refine GX_ifb_eq hC 136 dX10_flood_119 (by decide) (fun q => ?_) (fun q => ?_)
                  · skip
                    have h64 := ifT q e59
                    refine GX_aload_n hC dX10_flood_122 rfl ?_
                    refine GX_getR hC fkX10_25 ol_62 rfl dX10_flood_123 ?_
                    refine GX_iload hC dX10_flood_126 rfl ?_
                    obtain ⟨x65, e66, h67⟩ := ob h64
                    refine GX_ldA hC e66 al_68 dX10_flood_128 ?_
                    refine GX_if_le_N hC 136 dX10_flood_129 (by decide) (fun q => ?_) (fun q => ?_)
                    · skip
                      exact hc62 (cdT q h67)
                    · skip
                      exact hc63 (cdF q h67)
                  · skip
                    have h68 := ifF q e59
                    exact hc63 (oi h68)
                refine GX_istore hC [some (.ref (gad Γ 62)), some (.int a1), some (.int b2), some (.int x14), some (.int best27), some (.int least28), some (.int set29), some (.int (bI c58)), some (.int lost43), some (.int f44)] dX10_flood_137 (by decide) rfl rfl ?_
                refine GX_iload hC dX10_flood_139 rfl ?_
                obtain ⟨x69, e70, h71⟩ := ob h60
                suffices hJ72 : GX Γ LAY 0 0 [some (.ref (gad Γ 62)), some (.int a1), some (.int b2), some (.int x14), some (.int best27), some (.int least28), some (.int set29), some (.int (bI c58)), some (.int lost43), some (.int f44)] [.int x69, .int lost43] m45 175 by
                  refine GX_aload_n hC dX10_flood_141 rfl ?_
                  refine GX_getR hC fkX10_25 ol_62 rfl dX10_flood_142 ?_
                  refine GX_iload hC dX10_flood_145 rfl ?_
                  obtain ⟨x73, e74, h75⟩ := ob e70
                  refine GX_ldA hC e74 al_68 dX10_flood_147 ?_
                  refine GX_if_le_N hC 174 dX10_flood_148 (by decide) (fun q => ?_) (fun q => ?_)
                  · skip
                    have h76 := ifP q h75
                    refine GX_aload_n hC dX10_flood_151 rfl ?_
                    refine GX_getR hC fkX10_22 ol_62 rfl dX10_flood_152 ?_
                    refine GX_bipush hC 6 dX10_flood_155 rfl ?_
                    refine GX_aload_n hC dX10_flood_157 rfl ?_
                    refine GX_getR hC fkX10_25 ol_62 rfl dX10_flood_158 ?_
                    refine GX_iload hC dX10_flood_161 rfl ?_
                    obtain ⟨x77, e78, h79⟩ := ob h76
                    refine GX_ldA hC e78 al_68 dX10_flood_163 ?_
                    refine GX_iconst hC 1 dX10_flood_164 rfl ?_
                    refine GX_isub hC dX10_flood_165 ?_
                    refine GX_imul hC dX10_flood_166 ?_
                    refine GX_iload hC dX10_flood_167 rfl ?_
                    refine GX_iadd hC dX10_flood_169 ?_
                    obtain ⟨x80, e81, h82⟩ := ob h79
                    refine GX_ldA hC e81 al_67 dX10_flood_170 ?_
                    refine GX_goto hC 175 dX10_flood_171 (by decide) ?_
                    exact GX_nm (oi h82) hJ72
                  · skip
                    have h83 := ifN q h75
                    refine GX_iconst hC 0 dX10_flood_174 rfl ?_
                    exact GX_nm (oi h83) hJ72
                refine GX_iadd hC dX10_flood_175 ?_
                obtain ⟨lost84, e85, h86⟩ := ob h71
                refine GX_nm (oi e85) ?_
                refine GX_istore hC [some (.ref (gad Γ 62)), some (.int a1), some (.int b2), some (.int x14), some (.int best27), some (.int least28), some (.int set29), some (.int (bI c58)), some (.int lost84), some (.int f44)] dX10_flood_176 (by decide) rfl rfl ?_
                refine GX_aload_n hC dX10_flood_178 rfl ?_
                refine GX_getR hC fkX10_28 ol_62 rfl dX10_flood_179 ?_
                refine GX_iload hC dX10_flood_182 rfl ?_
                refine GX_iconst hC 0 dX10_flood_184 rfl ?_
                obtain ⟨m87, e88, h89⟩ := ob h86
                refine GX_stA hC e88 al_69 dX10_flood_185 ?_
                exact (hJ56 _ _ _ (oi h89))
              · skip
                have h90 := ifN q e51
                exact (hJ56 _ _ _ (oi h90))
            intro owned53 lost54 m55 q91
            subst q91
            obtain ⟨i92, e93, h94⟩ := ob h52
            refine GX_iinc hC i92 [some (.ref (gad Γ 62)), some (.int a1), some (.int b2), some (.int x14), some (.int best27), some (.int least28), some (.int set29), some (.int (bI owned53)), some (.int lost54), some (.int i92)] dX10_flood_186 rfl (oi e93) (by decide) rfl rfl ?_
            refine GX_goto hC 97 dX10_flood_189 (by decide) ?_
            exact hI41 _ (oi h94).symm
          · skip
            have h95 := ifN q hx41
            exact GX.le (hJ41 _ _ _ (hO41 _ (oi h95).symm)) ⟨rfl, ⟨rfl, ⟨rfl, ⟨rfl, ⟨rfl, ⟨rfl, ⟨rfl, ⟨rfl, ⟨rfl, trivial⟩⟩⟩⟩⟩⟩⟩⟩⟩
        intro owned46 lost47 m48 q96
        subst q96
        obtain ⟨o97, e98, h99⟩ := ob h40
        suffices hJ102 : ∀ (best100 : Int32) (least101 : Int32), (best100, least101) = o97 → GX Γ LAY 0 0 [some (.ref (gad Γ 62)), some (.int a1), some (.int b2), some (.int x14), some (.int best100), some (.int least101), some (.int set29), some (.int (bI owned46)), some (.int lost47), none] [] m48 224 by
          obtain ⟨c103, e104, h105⟩ := ob e98
          have hc106 : true = c103 → GX Γ LAY 0 0 [some (.ref (gad Γ 62)), some (.int a1), some (.int b2), some (.int x14), some (.int best27), some (.int least28), some (.int set29), some (.int (bI owned46)), some (.int lost47), none] [] m48 216 := by
            intro q
            have h107 := ifT q.symm h105
            refine GX_iload hC dX10_flood_216 rfl ?_
            refine GX_istore hC [some (.ref (gad Γ 62)), some (.int a1), some (.int b2), some (.int x14), some (.int set29), some (.int least28), some (.int set29), some (.int (bI owned46)), some (.int lost47), none] dX10_flood_218 (by decide) rfl rfl ?_
            refine GX_iload hC dX10_flood_220 rfl ?_
            refine GX_istore hC [some (.ref (gad Γ 62)), some (.int a1), some (.int b2), some (.int x14), some (.int set29), some (.int lost47), some (.int set29), some (.int (bI owned46)), some (.int lost47), none] dX10_flood_222 (by decide) rfl rfl ?_
            exact (hJ102 _ _ (oi h107))
          have hc108 : false = c103 → GX Γ LAY 0 0 [some (.ref (gad Γ 62)), some (.int a1), some (.int b2), some (.int x14), some (.int best27), some (.int least28), some (.int set29), some (.int (bI owned46)), some (.int lost47), none] [] m48 224 := by
            intro q
            have h109 := ifF q.symm h105
            exact (hJ102 _ _ (oi h109))
          refine GX_iload hC dX10_flood_192 rfl ?_
          refine GX_ifb_eq hC 224 dX10_flood_194 (by decide) (fun q => ?_) (fun q => ?_)
          · skip
            have h110 := ifT q e104
            refine GX_aload_n hC dX10_flood_197 rfl ?_
            obtain ⟨b111, e112, h113⟩ := ob h110
            refine GX_callV_i (st := []) hC (C_M_isFine e112) okX10_isFine lkX10_210 ol_62 rfl rfl (Nat.le_of_ble_eq_true rfl) (Nat.le_of_ble_eq_true rfl) hk rfl (Nat.le_of_ble_eq_true rfl) dX10_flood_198 ?_
            refine GX_ifb_eq hC 224 dX10_flood_201 (by decide) (fun q => ?_) (fun q => ?_)
            · skip
              have h114 := ifT q h113
              refine GX_iload hC dX10_flood_204 rfl ?_
              refine GX_if_lt_P hC 216 dX10_flood_206 (by decide) (fun q => ?_) (fun q => ?_)
              · skip
                have h115 := ifP q h114
                exact hc106 (oi h115)
              · skip
                have h116 := ifN q h114
                refine GX_iload hC dX10_flood_209 rfl ?_
                refine GX_iload hC dX10_flood_211 rfl ?_
                refine GX_icmp_ge_N hC 224 dX10_flood_213 (by decide) (fun q => ?_) (fun q => ?_)
                · skip
                  exact hc106 (cdT q h116)
                · skip
                  exact hc108 (cdF q h116)
            · skip
              have h117 := ifF q h113
              exact hc108 (oi h117)
          · skip
            have h118 := ifF q e104
            exact hc108 (oi h118)
        intro best100 least101 q119
        subst q119
        obtain ⟨i120, e121, h122⟩ := ob h99
        refine GX_iinc hC i120 [some (.ref (gad Γ 62)), some (.int a1), some (.int b2), some (.int x14), some (.int best100), some (.int least101), some (.int i120), some (.int (bI owned46)), some (.int lost47), none] dX10_flood_224 rfl (oi e121) (by decide) rfl rfl ?_
        refine GX_goto hC 73 dX10_flood_227 (by decide) ?_
        exact GX.le (hI26 _ (oi h122).symm) ⟨rfl, ⟨rfl, ⟨rfl, ⟨rfl, ⟨rfl, ⟨rfl, ⟨rfl, trivial⟩⟩⟩⟩⟩⟩⟩
      · skip
        have h123 := ifN q hx26
        exact GX.le (hJ26 _ _ _ (hO26 _ (oi h123).symm)) ⟨rfl, ⟨rfl, ⟨rfl, ⟨rfl, ⟨rfl, ⟨rfl, trivial⟩⟩⟩⟩⟩⟩
    intro best31 least32 m33 q124
    subst q124
    refine GX_aload_n hC dX10_flood_230 rfl ?_
    refine GX_getR hC fkX10_13 ol_62 rfl dX10_flood_231 ?_
    refine GX_bipush hC 6 dX10_flood_234 rfl ?_
    refine GX_iload_n hC dX10_flood_236 rfl ?_
    refine GX_imul hC dX10_flood_237 ?_
    refine GX_iload_n hC dX10_flood_238 rfl ?_
    refine GX_iadd hC dX10_flood_239 ?_
    refine GX_iload_n hC dX10_flood_240 rfl ?_
    obtain ⟨m125, e126, h127⟩ := ob h25
    refine GX_stA hC e126 al_64 dX10_flood_241 ?_
    refine GX_aload_n hC dX10_flood_242 rfl ?_
    refine GX_getR hC fkX10_13 ol_62 rfl dX10_flood_243 ?_
    refine GX_bipush hC 6 dX10_flood_246 rfl ?_
    refine GX_iload_n hC dX10_flood_248 rfl ?_
    refine GX_imul hC dX10_flood_249 ?_
    refine GX_iload_n hC dX10_flood_250 rfl ?_
    refine GX_iadd hC dX10_flood_251 ?_
    refine GX_iload_n hC dX10_flood_252 rfl ?_
    obtain ⟨m128, e129, h130⟩ := ob h127
    refine GX_stA hC e129 al_64 dX10_flood_253 ?_
    refine GX_iload hC dX10_flood_254 rfl ?_
    exact GX_iretW hC hR dX10_flood_256 (oi h130)
  refine GX_aload_n hC dX10_flood_5 rfl ?_
  refine GX_iload_n hC dX10_flood_6 rfl ?_
  obtain ⟨b131, e132, h133⟩ := ob e8
  refine GX_callV_i (st := []) hC (C_M_isField e132) okX10_isField lkX10_178 ol_62 rfl rfl (Nat.le_of_ble_eq_true rfl) (Nat.le_of_ble_eq_true rfl) hk rfl (Nat.le_of_ble_eq_true rfl) dX10_flood_7 ?_
  refine GX_ifb_eq hC 26 dX10_flood_10 (by decide) (fun q => ?_) (fun q => ?_)
  · skip
    have h134 := ifT q h133
    refine GX_aload_n hC dX10_flood_13 rfl ?_
    refine GX_iload_n hC dX10_flood_14 rfl ?_
    obtain ⟨b135, e136, h137⟩ := ob h134
    refine GX_callV_i (st := []) hC (C_M_isField e136) okX10_isField lkX10_178 ol_62 rfl rfl (Nat.le_of_ble_eq_true rfl) (Nat.le_of_ble_eq_true rfl) hk rfl (Nat.le_of_ble_eq_true rfl) dX10_flood_15 ?_
    refine GX_ifb_eq hC 26 dX10_flood_18 (by decide) (fun q => ?_) (fun q => ?_)
    · skip
      have h138 := ifT q h137
      refine GX_iload_n hC dX10_flood_21 rfl ?_
      refine GX_iload_n hC dX10_flood_22 rfl ?_
      refine GX_icmp_ne_N hC 28 dX10_flood_23 (by decide) (fun q => ?_) (fun q => ?_)
      · skip
        exact hc10 (cdT q h138)
      · skip
        exact hc12 (cdF q h138)
    · skip
      have h139 := ifF q h137
      exact hc10 (oi h139)
  · skip
    have h140 := ifF q h133
    exact hc10 (oi h140)
set_option maxRecDepth 100000 in
set_option maxHeartbeats 4000000 in
theorem C_M_frees {l : Launch} {m1 : MI} {r0 : Int32} {mr : MI}  (hf : M_frees m1 = some (r0, mr)) : Cn l yX10_frees cX10_frees 5 (some .int) 4 LAY (fun ad => .ref (ad 62) :: []) m1 (fun _ => some (.int r0)) mr := by
  refine Cn.of (fun ad => [some (.ref (ad 62)), none, none, none, none]) (by decide +kernel) (fun _ => rfl) (fun _ => Nat.le_of_ble_eq_true rfl) (fun Γ hl hC hR hk => ?_)
  subst hl
  replace hC : CX Γ cX10_frees RX10 LAY 4 5 := hC
  dsimp only [M_frees] at hf
  refine GX_aload_n hC dX10_frees_0 rfl ?_
  refine GX_iconst hC 0 dX10_frees_1 rfl ?_
  obtain ⟨m2, e3, h4⟩ := ob hf
  refine GX_stF hC e3 fkX10_99 ftX10_10 ol_62 rfl dX10_frees_2 ?_
  refine GX_aload_n hC dX10_frees_5 rfl ?_
  refine GX_iconst hC (bI false) dX10_frees_6 rfl ?_
  obtain ⟨m5, e6, h7⟩ := ob h4
  refine GX_callV_v (st := []) hC (C_M_findBest e6) okX10_findBest lkX10_276 ol_62 rfl rfl (Nat.le_of_ble_eq_true rfl) (Nat.le_of_ble_eq_true rfl) hk rfl (Nat.le_of_ble_eq_true rfl) dX10_frees_7 ?_
  refine GX_aload_n hC dX10_frees_10 rfl ?_
  refine GX_getI hC fkX10_270 ol_62 rfl dX10_frees_11 ?_
  obtain ⟨top8, e9, h10⟩ := ob h7
  refine GX_nm (oi e9) ?_
  refine GX_istore_n hC [some (.ref (gad Γ 62)), some (.int top8), none, none, none] dX10_frees_14 (by decide) rfl rfl ?_
  refine GX_bipush hC (-4) dX10_frees_15 rfl ?_
  refine GX_istore_n hC [some (.ref (gad Γ 62)), some (.int top8), some (.int (-4)), none, none] dX10_frees_17 (by decide) rfl rfl ?_
  refine GX_iconst hC 0 dX10_frees_18 rfl ?_
  refine GX_istore_n hC [some (.ref (gad Γ 62)), some (.int top8), some (.int (-4)), some (.int 0), none] dX10_frees_19 (by decide) rfl rfl ?_
  obtain ⟨o11, e12, h13⟩ := ob h10
  suffices hJ14 : ∀ (top19 : Int32) (found20 : Int32) (m21 : MI), (top19, found20, m21) = o11 → GX Γ LAY 0 0 [some (.ref (gad Γ 62)), some (.int top19), some (.int found20), none, none] [] m21 148 by
    refine lp_walk (P := fun s => GX Γ LAY 0 0 [some (.ref (gad Γ 62)), some (.int s.1), some (.int s.2.1), some (.int s.2.2.1), none] [] s.2.2.2 20) (fun s x hx14 hI14 hO14 => ?_) _ _ e12
    obtain ⟨top15, found16, a17, m18⟩ := s
    show GX Γ LAY 0 0 [some (.ref (gad Γ 62)), some (.int top15), some (.int found16), some (.int a17), none] [] m18 20
    dsimp only [M_frees_s1] at hx14
    refine GX_iload_n hC dX10_frees_20 rfl ?_
    refine GX_aload_n hC dX10_frees_21 rfl ?_
    refine GX_getI hC fkX10_103 ol_62 rfl dX10_frees_22 ?_
    refine GX_icmp_ge_N hC 148 dX10_frees_25 (by decide) (fun q => ?_) (fun q => ?_)
    · skip
      have h22 := ifP q hx14
      refine GX_iload_n hC dX10_frees_28 rfl ?_
      refine GX_iconst hC 1 dX10_frees_29 rfl ?_
      refine GX_iadd hC dX10_frees_30 ?_
      obtain ⟨b23, e24, h25⟩ := ob h22
      refine GX_nm (oi e24) ?_
      refine GX_istore hC [some (.ref (gad Γ 62)), some (.int top15), some (.int found16), some (.int a17), some (.int b23)] dX10_frees_31 (by decide) rfl rfl ?_
      obtain ⟨o26, e27, h28⟩ := ob h25
      suffices hJ29 : ∀ (top34 : Int32) (found35 : Int32) (m36 : MI), (top34, found35, m36) = o26 → GX Γ LAY 0 0 [some (.ref (gad Γ 62)), some (.int top34), some (.int found35), some (.int a17), none] [] m36 142 by
        refine lp_walk (P := fun s => GX Γ LAY 0 0 [some (.ref (gad Γ 62)), some (.int s.1), some (.int s.2.1), some (.int a17), some (.int s.2.2.1)] [] s.2.2.2 33) (fun s x hx29 hI29 hO29 => ?_) _ _ e27
        obtain ⟨top30, found31, b32, m33⟩ := s
        show GX Γ LAY 0 0 [some (.ref (gad Γ 62)), some (.int top30), some (.int found31), some (.int a17), some (.int b32)] [] m33 33
        dsimp only [M_frees_s2] at hx29
        refine GX_iload hC dX10_frees_33 rfl ?_
        refine GX_aload_n hC dX10_frees_35 rfl ?_
        refine GX_getI hC fkX10_103 ol_62 rfl dX10_frees_36 ?_
        refine GX_icmp_ge_N hC 142 dX10_frees_39 (by decide) (fun q => ?_) (fun q => ?_)
        · skip
          have h37 := ifP q hx29
          obtain ⟨o38, e39, h40⟩ := ob h37
          suffices hJ44 : ∀ (top41 : Int32) (found42 : Int32) (m43 : MI), (top41, found42, m43) = o38 → GX Γ LAY 0 0 [some (.ref (gad Γ 62)), some (.int top41), some (.int found42), some (.int a17), some (.int b32)] [] m43 136 by
            refine GX_aload_n hC dX10_frees_42 rfl ?_
            refine GX_getR hC fkX10_13 ol_62 rfl dX10_frees_43 ?_
            refine GX_bipush hC 6 dX10_frees_46 rfl ?_
            refine GX_iload_n hC dX10_frees_48 rfl ?_
            refine GX_imul hC dX10_frees_49 ?_
            refine GX_iload hC dX10_frees_50 rfl ?_
            refine GX_iadd hC dX10_frees_52 ?_
            obtain ⟨x45, e46, h47⟩ := ob e39
            refine GX_ldA hC e46 al_64 dX10_frees_53 ?_
            refine GX_iconst hC 1 dX10_frees_54 rfl ?_
            refine GX_icmp_ne_N hC 136 dX10_frees_55 (by decide) (fun q => ?_) (fun q => ?_)
            · skip
              have h48 := ifP q h47
              refine GX_aload_n hC dX10_frees_58 rfl ?_
              refine GX_getR hC fkX10_13 ol_62 rfl dX10_frees_59 ?_
              refine GX_bipush hC 6 dX10_frees_62 rfl ?_
              refine GX_iload_n hC dX10_frees_64 rfl ?_
              refine GX_imul hC dX10_frees_65 ?_
              refine GX_iload hC dX10_frees_66 rfl ?_
              refine GX_iadd hC dX10_frees_68 ?_
              refine GX_iconst hC 2 dX10_frees_69 rfl ?_
              obtain ⟨m49, e50, h51⟩ := ob h48
              refine GX_stA hC e50 al_64 dX10_frees_70 ?_
              refine GX_aload_n hC dX10_frees_71 rfl ?_
              refine GX_getR hC fkX10_13 ol_62 rfl dX10_frees_72 ?_
              refine GX_bipush hC 6 dX10_frees_75 rfl ?_
              refine GX_iload hC dX10_frees_77 rfl ?_
              refine GX_imul hC dX10_frees_79 ?_
              refine GX_iload_n hC dX10_frees_80 rfl ?_
              refine GX_iadd hC dX10_frees_81 ?_
              refine GX_iconst hC 2 dX10_frees_82 rfl ?_
              obtain ⟨m52, e53, h54⟩ := ob h51
              refine GX_stA hC e53 al_64 dX10_frees_83 ?_
              refine GX_aload_n hC dX10_frees_84 rfl ?_
              refine GX_iconst hC (bI false) dX10_frees_85 rfl ?_
              obtain ⟨m55, e56, h57⟩ := ob h54
              refine GX_callV_v (st := []) hC (C_M_findBest e56) okX10_findBest lkX10_276 ol_62 rfl rfl (Nat.le_of_ble_eq_true rfl) (Nat.le_of_ble_eq_true rfl) hk rfl (Nat.le_of_ble_eq_true rfl) dX10_frees_86 ?_
              refine GX_aload_n hC dX10_frees_89 rfl ?_
              refine GX_getR hC fkX10_13 ol_62 rfl dX10_frees_90 ?_
              refine GX_bipush hC 6 dX10_frees_93 rfl ?_
              refine GX_iload_n hC dX10_frees_95 rfl ?_
              refine GX_imul hC dX10_frees_96 ?_
              refine GX_iload hC dX10_frees_97 rfl ?_
              refine GX_iadd hC dX10_frees_99 ?_
              refine GX_iconst hC 1 dX10_frees_100 rfl ?_
              obtain ⟨m58, e59, h60⟩ := ob h57
              refine GX_stA hC e59 al_64 dX10_frees_101 ?_
              refine GX_aload_n hC dX10_frees_102 rfl ?_
              refine GX_getR hC fkX10_13 ol_62 rfl dX10_frees_103 ?_
              refine GX_bipush hC 6 dX10_frees_106 rfl ?_
              refine GX_iload hC dX10_frees_108 rfl ?_
              refine GX_imul hC dX10_frees_110 ?_
              refine GX_iload_n hC dX10_frees_111 rfl ?_
              refine GX_iadd hC dX10_frees_112 ?_
              refine GX_iconst hC 1 dX10_frees_113 rfl ?_
              obtain ⟨m61, e62, h63⟩ := ob h60
              refine GX_stA hC e62 al_64 dX10_frees_114 ?_
              obtain ⟨o64, e65, h66⟩ := ob h63
              suffices hJ69 : ∀ (top67 : Int32) (found68 : Int32), (top67, found68) = o64 → GX Γ LAY 0 0 [some (.ref (gad Γ 62)), some (.int top67), some (.int found68), some (.int a17), some (.int b32)] [] m61 136 by
                refine GX_aload_n hC dX10_frees_115 rfl ?_
                refine GX_getI hC fkX10_270 ol_62 rfl dX10_frees_116 ?_
                refine GX_iload_n hC dX10_frees_119 rfl ?_
                refine GX_icmp_le_N hC 136 dX10_frees_120 (by decide) (fun q => ?_) (fun q => ?_)
                · skip
                  have h70 := ifP q e65
                  refine GX_aload_n hC dX10_frees_123 rfl ?_
                  refine GX_getI hC fkX10_270 ol_62 rfl dX10_frees_124 ?_
                  obtain ⟨top71, e72, h73⟩ := ob h70
                  refine GX_nm (oi e72) ?_
                  refine GX_istore_n hC [some (.ref (gad Γ 62)), some (.int top71), some (.int found31), some (.int a17), some (.int b32)] dX10_frees_127 (by decide) rfl rfl ?_
                  refine GX_bipush hC 10 dX10_frees_128 rfl ?_
                  refine GX_iload_n hC dX10_frees_130 rfl ?_
                  refine GX_imul hC dX10_frees_131 ?_
                  refine GX_iload hC dX10_frees_132 rfl ?_
                  refine GX_iadd hC dX10_frees_134 ?_
                  obtain ⟨found74, e75, h76⟩ := ob h73
                  refine GX_nm (oi e75) ?_
                  refine GX_istore_n hC [some (.ref (gad Γ 62)), some (.int top71), some (.int found74), some (.int a17), some (.int b32)] dX10_frees_135 (by decide) rfl rfl ?_
                  exact (hJ69 _ _ (oi h76))
                · skip
                  have h77 := ifN q e65
                  exact (hJ69 _ _ (oi h77))
              intro top67 found68 q78
              subst q78
              exact (hJ44 _ _ _ (oi h66))
            · skip
              have h79 := ifN q h47
              exact (hJ44 _ _ _ (oi h79))
          intro top41 found42 m43 q80
          subst q80
          obtain ⟨i81, e82, h83⟩ := ob h40
          refine GX_iinc hC i81 [some (.ref (gad Γ 62)), some (.int top41), some (.int found42), some (.int a17), some (.int i81)] dX10_frees_136 rfl (oi e82) (by decide) rfl rfl ?_
          refine GX_goto hC 33 dX10_frees_139 (by decide) ?_
          exact hI29 _ (oi h83).symm
        · skip
          have h84 := ifN q hx29
          exact GX.le (hJ29 _ _ _ (hO29 _ (oi h84).symm)) ⟨rfl, ⟨rfl, ⟨rfl, ⟨rfl, trivial⟩⟩⟩⟩
      intro top34 found35 m36 q85
      subst q85
      obtain ⟨i86, e87, h88⟩ := ob h28
      refine GX_iinc hC i86 [some (.ref (gad Γ 62)), some (.int top34), some (.int found35), some (.int i86), none] dX10_frees_142 rfl (oi e87) (by decide) rfl rfl ?_
      refine GX_goto hC 20 dX10_frees_145 (by decide) ?_
      exact hI14 _ (oi h88).symm
    · skip
      have h89 := ifN q hx14
      exact GX.le (hJ14 _ _ _ (hO14 _ (oi h89).symm)) ⟨rfl, ⟨rfl, ⟨rfl, trivial⟩⟩⟩
  intro top19 found20 m21 q90
  subst q90
  refine GX_iload_n hC dX10_frees_148 rfl ?_
  exact GX_iretW hC hR dX10_frees_149 (oi h13)
set_option maxRecDepth 100000 in
set_option maxHeartbeats 4000000 in
theorem C_M_spreadGame {l : Launch} {state1 : Int32} {m2 : MI} {mr : MI}  (hf : M_spreadGame state1 m2 = some mr) : Cn l yX10_spreadGame cX10_spreadGame 4 none 0 LAY (fun ad => .ref (ad 62) :: [.int state1]) m2 (fun _ => none) mr := by
  refine Cn.of (fun ad => [some (.ref (ad 62)), some (.int state1), none, none]) (by decide +kernel) (fun _ => rfl) (fun _ => Nat.le_of_ble_eq_true rfl) (fun Γ hl hC hR hk => ?_)
  subst hl
  replace hC : CX Γ cX10_spreadGame RX10 LAY 0 4 := hC
  dsimp only [M_spreadGame] at hf
  refine GX_iload_n hC dX10_spreadGame_0 rfl ?_
  refine GX_istore_n hC [some (.ref (gad Γ 62)), some (.int state1), some (.int state1), none] dX10_spreadGame_1 (by decide) rfl rfl ?_
  refine GX_iconst hC 0 dX10_spreadGame_2 rfl ?_
  refine GX_istore_n hC [some (.ref (gad Γ 62)), some (.int state1), some (.int state1), some (.int 0)] dX10_spreadGame_3 (by decide) rfl rfl ?_
  obtain ⟨o3, e4, h5⟩ := ob hf
  suffices hJ6 : ∀ (rest10 : Int32) (m11 : MI), (rest10, m11) = o3 → GX Γ LAY 0 0 [some (.ref (gad Γ 62)), some (.int state1), some (.int rest10), none] [] m11 29 by
    refine lp_walk (P := fun s => GX Γ LAY 0 0 [some (.ref (gad Γ 62)), some (.int state1), some (.int s.1), some (.int s.2.1)] [] s.2.2 4) (fun s x hx6 hI6 hO6 => ?_) _ _ e4
    obtain ⟨rest7, f8, m9⟩ := s
    show GX Γ LAY 0 0 [some (.ref (gad Γ 62)), some (.int state1), some (.int rest7), some (.int f8)] [] m9 4
    dsimp only [M_spreadGame_s1] at hx6
    refine GX_iload_n hC dX10_spreadGame_4 rfl ?_
    refine GX_bipush hC 6 dX10_spreadGame_5 rfl ?_
    refine GX_icmp_ge_N hC 29 dX10_spreadGame_7 (by decide) (fun q => ?_) (fun q => ?_)
    · skip
      have h12 := ifP q hx6
      refine GX_aload_n hC dX10_spreadGame_10 rfl ?_
      refine GX_getR hC fkX10_65 ol_62 rfl dX10_spreadGame_11 ?_
      refine GX_iload_n hC dX10_spreadGame_14 rfl ?_
      refine GX_iload_n hC dX10_spreadGame_15 rfl ?_
      refine GX_iconst hC 3 dX10_spreadGame_16 rfl ?_
      refine GX_irem hC dX10_spreadGame_17 (by decide) ?_
      obtain ⟨m13, e14, h15⟩ := ob h12
      refine GX_stA hC e14 al_81 dX10_spreadGame_18 ?_
      refine GX_iload_n hC dX10_spreadGame_19 rfl ?_
      refine GX_iconst hC 3 dX10_spreadGame_20 rfl ?_
      refine GX_idiv hC dX10_spreadGame_21 (by decide) ?_
      obtain ⟨rest16, e17, h18⟩ := ob h15
      refine GX_nm (oi e17) ?_
      refine GX_istore_n hC [some (.ref (gad Γ 62)), some (.int state1), some (.int rest16), some (.int f8)] dX10_spreadGame_22 (by decide) rfl rfl ?_
      obtain ⟨i19, e20, h21⟩ := ob h18
      refine GX_iinc hC i19 [some (.ref (gad Γ 62)), some (.int state1), some (.int rest16), some (.int i19)] dX10_spreadGame_23 rfl (oi e20) (by decide) rfl rfl ?_
      refine GX_goto hC 4 dX10_spreadGame_26 (by decide) ?_
      exact hI6 _ (oi h21).symm
    · skip
      have h22 := ifN q hx6
      exact GX.le (hJ6 _ _ (hO6 _ (oi h22).symm)) ⟨rfl, ⟨rfl, ⟨rfl, trivial⟩⟩⟩
  intro rest10 m11 q23
  subst q23
  exact GX_vretW hC hR dX10_spreadGame_29 (oi h5)
set_option maxRecDepth 100000 in
set_option maxHeartbeats 4000000 in
theorem C_M_free {l : Launch} {m1 : MI} {r0 : Int32}  (hf : M_free m1 = some r0) : Cn l yX10_free cX10_free 3 (some .int) 0 LAY (fun ad => .ref (ad 62) :: []) m1 (fun _ => some (.int r0)) m1 := by
  refine Cn.of (fun ad => [some (.ref (ad 62)), none, none]) (by decide +kernel) (fun _ => rfl) (fun _ => Nat.le_of_ble_eq_true rfl) (fun Γ hl hC hR hk => ?_)
  subst hl
  replace hC : CX Γ cX10_free RX10 LAY 0 3 := hC
  dsimp only [M_free] at hf
  refine GX_iconst hC 0 dX10_free_0 rfl ?_
  refine GX_istore_n hC [some (.ref (gad Γ 62)), some (.int 0), none] dX10_free_1 (by decide) rfl rfl ?_
  refine GX_iconst hC 0 dX10_free_2 rfl ?_
  refine GX_istore_n hC [some (.ref (gad Γ 62)), some (.int 0), some (.int 0)] dX10_free_3 (by decide) rfl rfl ?_
  obtain ⟨o2, e3, h4⟩ := ob hf
  suffices hJ5 : ∀ (n8 : Int32), n8 = o2 → GX Γ LAY 0 0 [some (.ref (gad Γ 62)), some (.int n8), none] [] m1 44 by
    refine lp_walk (P := fun s => GX Γ LAY 0 0 [some (.ref (gad Γ 62)), some (.int s.1), some (.int s.2)] [] m1 4) (fun s x hx5 hI5 hO5 => ?_) _ _ e3
    obtain ⟨n6, f7⟩ := s
    show GX Γ LAY 0 0 [some (.ref (gad Γ 62)), some (.int n6), some (.int f7)] [] m1 4
    dsimp only [M_free_s1] at hx5
    refine GX_iload_n hC dX10_free_4 rfl ?_
    refine GX_aload_n hC dX10_free_5 rfl ?_
    refine GX_getI hC fkX10_103 ol_62 rfl dX10_free_6 ?_
    refine GX_icmp_ge_N hC 44 dX10_free_9 (by decide) (fun q => ?_) (fun q => ?_)
    · skip
      have h9 := ifP q hx5
      refine GX_iload_n hC dX10_free_12 rfl ?_
      obtain ⟨x10, e11, h12⟩ := ob h9
      suffices hJ13 : GX Γ LAY 0 0 [some (.ref (gad Γ 62)), some (.int n6), some (.int f7)] [.int x10, .int n6] m1 36 by
        obtain ⟨c14, e15, h16⟩ := ob e11
        have hc17 : true = c14 → GX Γ LAY 0 0 [some (.ref (gad Γ 62)), some (.int n6), some (.int f7)] [.int n6] m1 31 := by
          intro q
          have h18 := ifT q.symm h16
          refine GX_iconst hC 1 dX10_free_31 rfl ?_
          refine GX_goto hC 36 dX10_free_32 (by decide) ?_
          exact GX_nm (oi h18) hJ13
        have hc19 : false = c14 → GX Γ LAY 0 0 [some (.ref (gad Γ 62)), some (.int n6), some (.int f7)] [.int n6] m1 35 := by
          intro q
          have h20 := ifF q.symm h16
          refine GX_iconst hC 0 dX10_free_35 rfl ?_
          exact GX_nm (oi h20) hJ13
        refine GX_aload_n hC dX10_free_13 rfl ?_
        refine GX_getR hC fkX10_25 ol_62 rfl dX10_free_14 ?_
        refine GX_iload_n hC dX10_free_17 rfl ?_
        obtain ⟨x21, e22, h23⟩ := ob e15
        refine GX_ldA hC e22 al_68 dX10_free_18 ?_
        refine GX_if_ne_N hC 35 dX10_free_19 (by decide) (fun q => ?_) (fun q => ?_)
        · skip
          have h24 := ifP q h23
          refine GX_aload_n hC dX10_free_22 rfl ?_
          refine GX_getR hC fkX10_65 ol_62 rfl dX10_free_23 ?_
          refine GX_iload_n hC dX10_free_26 rfl ?_
          obtain ⟨x25, e26, h27⟩ := ob h24
          refine GX_ldA hC e26 al_81 dX10_free_27 ?_
          refine GX_if_ne_N hC 35 dX10_free_28 (by decide) (fun q => ?_) (fun q => ?_)
          · skip
            exact hc17 (cdT q h27)
          · skip
            exact hc19 (cdF q h27)
        · skip
          have h28 := ifN q h23
          exact hc19 (oi h28)
      refine GX_iadd hC dX10_free_36 ?_
      obtain ⟨n29, e30, h31⟩ := ob h12
      refine GX_nm (oi e30) ?_
      refine GX_istore_n hC [some (.ref (gad Γ 62)), some (.int n29), some (.int f7)] dX10_free_37 (by decide) rfl rfl ?_
      obtain ⟨i32, e33, h34⟩ := ob h31
      refine GX_iinc hC i32 [some (.ref (gad Γ 62)), some (.int n29), some (.int i32)] dX10_free_38 rfl (oi e33) (by decide) rfl rfl ?_
      refine GX_goto hC 4 dX10_free_41 (by decide) ?_
      exact hI5 _ (oi h34).symm
    · skip
      have h35 := ifN q hx5
      exact GX.le (hJ5 _ (hO5 _ (oi h35).symm)) ⟨rfl, ⟨rfl, trivial⟩⟩
  intro n8 q36
  subst q36
  refine GX_iload_n hC dX10_free_44 rfl ?_
  exact GX_iretR hC hR dX10_free_45 (oi h4)
set_option maxRecDepth 100000 in
set_option maxHeartbeats 4000000 in
theorem C_M_canTake {l : Launch} {f1 : Int32} {p2 : Int32} {m3 : MI} {r0 : Bool}  (hf : M_canTake f1 p2 m3 = some r0) : Cn l yX10_canTake cX10_canTake 6 (some .boolean) 1 LAY (fun ad => .ref (ad 62) :: [.int f1, .int p2]) m3 (fun _ => some (.int (bI r0))) m3 := by
  refine Cn.of (fun ad => [some (.ref (ad 62)), some (.int f1), some (.int p2), none, none, none]) (by decide +kernel) (fun _ => rfl) (fun _ => Nat.le_of_ble_eq_true rfl) (fun Γ hl hC hR hk => ?_)
  subst hl
  replace hC : CX Γ cX10_canTake RX10 LAY 1 6 := hC
  dsimp only [M_canTake] at hf
  obtain ⟨c4, e5, h6⟩ := ob hf
  suffices hJ7 : GX Γ LAY 0 0 [some (.ref (gad Γ 62)), some (.int f1), some (.int p2), none, none, none] [.int (bI c4)] m3 23 by
    have hc8 : true = c4 → GX Γ LAY 0 0 [some (.ref (gad Γ 62)), some (.int f1), some (.int p2), none, none, none] [] m3 18 := by
      intro q
      subst q
      refine GX_iconst hC (bI true) dX10_canTake_18 rfl ?_
      refine GX_goto hC 23 dX10_canTake_19 (by decide) ?_
      exact hJ7
    have hc9 : false = c4 → GX Γ LAY 0 0 [some (.ref (gad Γ 62)), some (.int f1), some (.int p2), none, none, none] [] m3 22 := by
      intro q
      subst q
      refine GX_iconst hC (bI false) dX10_canTake_22 rfl ?_
      exact hJ7
    refine GX_aload_n hC dX10_canTake_0 rfl ?_
    refine GX_getR hC fkX10_25 ol_62 rfl dX10_canTake_1 ?_
    refine GX_iload_n hC dX10_canTake_4 rfl ?_
    obtain ⟨x10, e11, h12⟩ := ob e5
    refine GX_ldA hC e11 al_68 dX10_canTake_5 ?_
    refine GX_if_ne_N hC 22 dX10_canTake_6 (by decide) (fun q => ?_) (fun q => ?_)
    · skip
      have h13 := ifP q h12
      refine GX_aload_n hC dX10_canTake_9 rfl ?_
      refine GX_getR hC fkX10_65 ol_62 rfl dX10_canTake_10 ?_
      refine GX_iload_n hC dX10_canTake_13 rfl ?_
      obtain ⟨x14, e15, h16⟩ := ob h13
      refine GX_ldA hC e15 al_81 dX10_canTake_14 ?_
      refine GX_if_ne_N hC 22 dX10_canTake_15 (by decide) (fun q => ?_) (fun q => ?_)
      · skip
        exact hc8 (cdT q h16)
      · skip
        exact hc9 (cdF q h16)
    · skip
      have h17 := ifN q h12
      exact hc9 (oi h17)
  refine GX_istore_n hC [some (.ref (gad Γ 62)), some (.int f1), some (.int p2), some (.int (bI c4)), none, none] dX10_canTake_23 (by decide) rfl rfl ?_
  refine GX_iconst hC 0 dX10_canTake_24 rfl ?_
  refine GX_istore hC [some (.ref (gad Γ 62)), some (.int f1), some (.int p2), some (.int (bI c4)), some (.int 0), none] dX10_canTake_25 (by decide) rfl rfl ?_
  obtain ⟨o18, e19, h20⟩ := ob h6
  suffices hJ21 : ∀ (can24 : Bool), can24 = o18 → GX Γ LAY 0 0 [some (.ref (gad Γ 62)), some (.int f1), some (.int p2), some (.int (bI can24)), none, none] [] m3 106 by
    refine lp_walk (P := fun s => GX Γ LAY 0 0 [some (.ref (gad Γ 62)), some (.int f1), some (.int p2), some (.int (bI s.1)), some (.int s.2), none] [] m3 27) (fun s x hx21 hI21 hO21 => ?_) _ _ e19
    obtain ⟨can22, k23⟩ := s
    show GX Γ LAY 0 0 [some (.ref (gad Γ 62)), some (.int f1), some (.int p2), some (.int (bI can22)), some (.int k23), none] [] m3 27
    dsimp only [M_canTake_s1] at hx21
    refine GX_iload hC dX10_canTake_27 rfl ?_
    refine GX_aload_n hC dX10_canTake_29 rfl ?_
    refine GX_getI hC fkX10_103 ol_62 rfl dX10_canTake_30 ?_
    refine GX_icmp_ge_N hC 106 dX10_canTake_33 (by decide) (fun q => ?_) (fun q => ?_)
    · skip
      have h25 := ifP q hx21
      obtain ⟨c26, e27, h28⟩ := ob h25
      suffices hJ29 : GX Γ LAY 0 0 [some (.ref (gad Γ 62)), some (.int f1), some (.int p2), some (.int (bI can22)), some (.int k23), none] [.int (bI c26)] m3 67 by
        have hc30 : true = c26 → GX Γ LAY 0 0 [some (.ref (gad Γ 62)), some (.int f1), some (.int p2), some (.int (bI can22)), some (.int k23), none] [] m3 62 := by
          intro q
          subst q
          refine GX_iconst hC (bI true) dX10_canTake_62 rfl ?_
          refine GX_goto hC 67 dX10_canTake_63 (by decide) ?_
          exact hJ29
        have hc31 : false = c26 → GX Γ LAY 0 0 [some (.ref (gad Γ 62)), some (.int f1), some (.int p2), some (.int (bI can22)), some (.int k23), none] [] m3 66 := by
          intro q
          subst q
          refine GX_iconst hC (bI false) dX10_canTake_66 rfl ?_
          exact hJ29
        refine GX_aload_n hC dX10_canTake_36 rfl ?_
        refine GX_getR hC fkX10_25 ol_62 rfl dX10_canTake_37 ?_
        refine GX_iload hC dX10_canTake_40 rfl ?_
        obtain ⟨x32, e33, h34⟩ := ob e27
        refine GX_ldA hC e33 al_68 dX10_canTake_42 ?_
        refine GX_iload_n hC dX10_canTake_43 rfl ?_
        refine GX_iconst hC 1 dX10_canTake_44 rfl ?_
        refine GX_iadd hC dX10_canTake_45 ?_
        refine GX_icmp_eq_P hC 62 dX10_canTake_46 (by decide) (fun q => ?_) (fun q => ?_)
        · skip
          have h35 := ifP q h34
          exact hc30 (oi h35)
        · skip
          have h36 := ifN q h34
          refine GX_aload_n hC dX10_canTake_49 rfl ?_
          refine GX_getR hC fkX10_65 ol_62 rfl dX10_canTake_50 ?_
          refine GX_iload hC dX10_canTake_53 rfl ?_
          obtain ⟨x37, e38, h39⟩ := ob h36
          refine GX_ldA hC e38 al_81 dX10_canTake_55 ?_
          refine GX_iload_n hC dX10_canTake_56 rfl ?_
          refine GX_iconst hC 1 dX10_canTake_57 rfl ?_
          refine GX_iadd hC dX10_canTake_58 ?_
          refine GX_icmp_ne_N hC 66 dX10_canTake_59 (by decide) (fun q => ?_) (fun q => ?_)
          · skip
            exact hc30 (cdT q h39)
          · skip
            exact hc31 (cdF q h39)
      refine GX_istore hC [some (.ref (gad Γ 62)), some (.int f1), some (.int p2), some (.int (bI can22)), some (.int k23), some (.int (bI c26))] dX10_canTake_67 (by decide) rfl rfl ?_
      obtain ⟨c40, e41, h42⟩ := ob h28
      suffices hJ43 : GX Γ LAY 0 0 [some (.ref (gad Γ 62)), some (.int f1), some (.int p2), some (.int (bI can22)), some (.int k23), some (.int (bI c26))] [.int (bI c40)] m3 99 by
        have hc44 : true = c40 → GX Γ LAY 0 0 [some (.ref (gad Γ 62)), some (.int f1), some (.int p2), some (.int (bI can22)), some (.int k23), some (.int (bI c26))] [] m3 94 := by
          intro q
          subst q
          refine GX_iconst hC (bI true) dX10_canTake_94 rfl ?_
          refine GX_goto hC 99 dX10_canTake_95 (by decide) ?_
          exact hJ43
        have hc45 : false = c40 → GX Γ LAY 0 0 [some (.ref (gad Γ 62)), some (.int f1), some (.int p2), some (.int (bI can22)), some (.int k23), some (.int (bI c26))] [] m3 98 := by
          intro q
          subst q
          refine GX_iconst hC (bI false) dX10_canTake_98 rfl ?_
          exact hJ43
        refine GX_iload_n hC dX10_canTake_69 rfl ?_
        refine GX_ifb_eq hC 98 dX10_canTake_70 (by decide) (fun q => ?_) (fun q => ?_)
        · skip
          have h46 := ifT q e41
          refine GX_iload hC dX10_canTake_73 rfl ?_
          refine GX_ifb_eq hC 94 dX10_canTake_75 (by decide) (fun q => ?_) (fun q => ?_)
          · skip
            have h47 := ifT q h46
            refine GX_iload hC dX10_canTake_78 rfl ?_
            refine GX_iload_n hC dX10_canTake_80 rfl ?_
            refine GX_icmp_eq_N hC 94 dX10_canTake_81 (by decide) (fun q => ?_) (fun q => ?_)
            · skip
              have h48 := ifP q h47
              refine GX_aload_n hC dX10_canTake_84 rfl ?_
              refine GX_iload_n hC dX10_canTake_85 rfl ?_
              refine GX_iload hC dX10_canTake_86 rfl ?_
              obtain ⟨b49, e50, h51⟩ := ob h48
              refine GX_callV_i (st := []) hC (C_M_bars e50) okX10_bars lkX10_119 ol_62 rfl rfl (Nat.le_of_ble_eq_true rfl) (Nat.le_of_ble_eq_true rfl) hk rfl (Nat.le_of_ble_eq_true rfl) dX10_canTake_88 ?_
              refine GX_ifb_ne hC 98 dX10_canTake_91 (by decide) (fun q => ?_) (fun q => ?_)
              · skip
                exact hc45 (cbnT q h51)
              · skip
                exact hc44 (cbnF q h51)
            · skip
              have h52 := ifN q h47
              exact hc44 (oi h52)
          · skip
            have h53 := ifF q h46
            exact hc44 (oi h53)
        · skip
          have h54 := ifF q e41
          exact hc45 (oi h54)
      refine GX_istore_n hC [some (.ref (gad Γ 62)), some (.int f1), some (.int p2), some (.int (bI c40)), some (.int k23), some (.int (bI c26))] dX10_canTake_99 (by decide) rfl rfl ?_
      obtain ⟨i55, e56, h57⟩ := ob h42
      refine GX_iinc hC i55 [some (.ref (gad Γ 62)), some (.int f1), some (.int p2), some (.int (bI c40)), some (.int i55), some (.int (bI c26))] dX10_canTake_100 rfl (oi e56) (by decide) rfl rfl ?_
      refine GX_goto hC 27 dX10_canTake_103 (by decide) ?_
      exact GX.le (hI21 _ (oi h57).symm) ⟨rfl, ⟨rfl, ⟨rfl, ⟨rfl, ⟨rfl, trivial⟩⟩⟩⟩⟩
    · skip
      have h58 := ifN q hx21
      exact GX.le (hJ21 _ (hO21 _ (oi h58).symm)) ⟨rfl, ⟨rfl, ⟨rfl, ⟨rfl, trivial⟩⟩⟩⟩
  intro can24 q59
  subst q59
  refine GX_iload_n hC dX10_canTake_106 rfl ?_
  exact GX_zretR hC can24 hR dX10_canTake_107 (oi h20)
set_option maxRecDepth 100000 in
set_option maxHeartbeats 4000000 in
theorem C_M_solveState {l : Launch} {state1 : Int32} {p2 : Int32} {m3 : MI} {mr : MI}  (hf : M_solveState state1 p2 m3 = some mr) : Cn l yX10_solveState cX10_solveState 10 none 2 LAY (fun ad => .ref (ad 62) :: [.int state1, .int p2]) m3 (fun _ => none) mr := by
  refine Cn.of (fun ad => [some (.ref (ad 62)), some (.int state1), some (.int p2), none, none, none, none, none, none, none]) (by decide +kernel) (fun _ => rfl) (fun _ => Nat.le_of_ble_eq_true rfl) (fun Γ hl hC hR hk => ?_)
  subst hl
  replace hC : CX Γ cX10_solveState RX10 LAY 2 10 := hC
  dsimp only [M_solveState] at hf
  refine GX_iconst hC 1 dX10_solveState_0 rfl ?_
  refine GX_istore_n hC [some (.ref (gad Γ 62)), some (.int state1), some (.int p2), some (.int 1), none, none, none, none, none, none] dX10_solveState_1 (by decide) rfl rfl ?_
  refine GX_iconst hC (bI false) dX10_solveState_2 rfl ?_
  refine GX_istore hC [some (.ref (gad Γ 62)), some (.int state1), some (.int p2), some (.int 1), some (.int (bI false)), none, none, none, none, none] dX10_solveState_3 (by decide) rfl rfl ?_
  refine GX_iconst hC 0 dX10_solveState_5 rfl ?_
  refine GX_istore hC [some (.ref (gad Γ 62)), some (.int state1), some (.int p2), some (.int 1), some (.int (bI false)), some (.int 0), none, none, none, none] dX10_solveState_6 (by decide) rfl rfl ?_
  refine GX_iconst hC 0 dX10_solveState_8 rfl ?_
  refine GX_istore hC [some (.ref (gad Γ 62)), some (.int state1), some (.int p2), some (.int 1), some (.int (bI false)), some (.int 0), some (.int 0), none, none, none] dX10_solveState_9 (by decide) rfl rfl ?_
  refine GX_iconst hC 0 dX10_solveState_11 rfl ?_
  refine GX_istore hC [some (.ref (gad Γ 62)), some (.int state1), some (.int p2), some (.int 1), some (.int (bI false)), some (.int 0), some (.int 0), some (.int 0), none, none] dX10_solveState_12 (by decide) rfl rfl ?_
  obtain ⟨o4, e5, h6⟩ := ob hf
  suffices hJ7 : ∀ (unit13 : Int32) (won14 : Bool) (best15 : Int32) (moves16 : Int32), (unit13, won14, best15, moves16) = o4 → GX Γ LAY 0 0 [some (.ref (gad Γ 62)), some (.int state1), some (.int p2), some (.int unit13), some (.int (bI won14)), some (.int best15), some (.int moves16), none, none, none] [] m3 137 by
    refine lp_walk (P := fun s => GX Γ LAY 0 0 [some (.ref (gad Γ 62)), some (.int state1), some (.int p2), some (.int s.1), some (.int (bI s.2.1)), some (.int s.2.2.1), some (.int s.2.2.2.1), some (.int s.2.2.2.2), none, none] [] m3 14) (fun s x hx7 hI7 hO7 => ?_) _ _ e5
    obtain ⟨unit8, won9, best10, moves11, f12⟩ := s
    show GX Γ LAY 0 0 [some (.ref (gad Γ 62)), some (.int state1), some (.int p2), some (.int unit8), some (.int (bI won9)), some (.int best10), some (.int moves11), some (.int f12), none, none] [] m3 14
    dsimp only [M_solveState_s1] at hx7
    refine GX_iload hC dX10_solveState_14 rfl ?_
    refine GX_aload_n hC dX10_solveState_16 rfl ?_
    refine GX_getI hC fkX10_103 ol_62 rfl dX10_solveState_17 ?_
    refine GX_icmp_ge_N hC 137 dX10_solveState_20 (by decide) (fun q => ?_) (fun q => ?_)
    · skip
      have h17 := ifP q hx7
      obtain ⟨o18, e19, h20⟩ := ob h17
      suffices hJ24 : ∀ (won21 : Bool) (best22 : Int32) (moves23 : Int32), (won21, best22, moves23) = o18 → GX Γ LAY 0 0 [some (.ref (gad Γ 62)), some (.int state1), some (.int p2), some (.int unit8), some (.int (bI won21)), some (.int best22), some (.int moves23), some (.int f12), none, none] [] m3 127 by
        refine GX_aload_n hC dX10_solveState_23 rfl ?_
        refine GX_iload hC dX10_solveState_24 rfl ?_
        refine GX_iload_n hC dX10_solveState_26 rfl ?_
        obtain ⟨b25, e26, h27⟩ := ob e19
        refine GX_callV_i (st := []) hC (C_M_canTake e26) okX10_canTake lkX10_286 ol_62 rfl rfl (Nat.le_of_ble_eq_true rfl) (Nat.le_of_ble_eq_true rfl) hk rfl (Nat.le_of_ble_eq_true rfl) dX10_solveState_27 ?_
        refine GX_ifb_eq hC 127 dX10_solveState_30 (by decide) (fun q => ?_) (fun q => ?_)
        · skip
          have h28 := ifT q h27
          refine GX_iconst hC 2 dX10_solveState_33 rfl ?_
          refine GX_iload_n hC dX10_solveState_34 rfl ?_
          refine GX_iload_n hC dX10_solveState_35 rfl ?_
          refine GX_iload_n hC dX10_solveState_36 rfl ?_
          refine GX_iconst hC 1 dX10_solveState_37 rfl ?_
          refine GX_iadd hC dX10_solveState_38 ?_
          refine GX_imul hC dX10_solveState_39 ?_
          refine GX_iadd hC dX10_solveState_40 ?_
          refine GX_imul hC dX10_solveState_41 ?_
          refine GX_iconst hC 1 dX10_solveState_42 rfl ?_
          refine GX_iadd hC dX10_solveState_43 ?_
          refine GX_iload_n hC dX10_solveState_44 rfl ?_
          refine GX_isub hC dX10_solveState_45 ?_
          obtain ⟨then29, e30, h31⟩ := ob h28
          refine GX_nm (oi e30) ?_
          refine GX_istore hC [some (.ref (gad Γ 62)), some (.int state1), some (.int p2), some (.int unit8), some (.int (bI won9)), some (.int best10), some (.int moves11), some (.int f12), some (.int then29), none] dX10_solveState_46 (by decide) rfl rfl ?_
          obtain ⟨c32, e33, h34⟩ := ob h31
          suffices hJ35 : GX Γ LAY 0 0 [some (.ref (gad Γ 62)), some (.int state1), some (.int p2), some (.int unit8), some (.int (bI won9)), some (.int best10), some (.int moves11), some (.int f12), some (.int then29), none] [.int (bI c32)] m3 68 by
            have hc36 : true = c32 → GX Γ LAY 0 0 [some (.ref (gad Γ 62)), some (.int state1), some (.int p2), some (.int unit8), some (.int (bI won9)), some (.int best10), some (.int moves11), some (.int f12), some (.int then29), none] [] m3 63 := by
              intro q
              subst q
              refine GX_iconst hC (bI true) dX10_solveState_63 rfl ?_
              refine GX_goto hC 68 dX10_solveState_64 (by decide) ?_
              exact hJ35
            have hc37 : false = c32 → GX Γ LAY 0 0 [some (.ref (gad Γ 62)), some (.int state1), some (.int p2), some (.int unit8), some (.int (bI won9)), some (.int best10), some (.int moves11), some (.int f12), some (.int then29), none] [] m3 67 := by
              intro q
              subst q
              refine GX_iconst hC (bI false) dX10_solveState_67 rfl ?_
              exact hJ35
            refine GX_iload hC dX10_solveState_48 rfl ?_
            refine GX_ifb_ne hC 63 dX10_solveState_50 (by decide) (fun q => ?_) (fun q => ?_)
            · skip
              have h38 := ifT q e33
              exact hc36 (oi h38)
            · skip
              have h39 := ifF q e33
              refine GX_aload_n hC dX10_solveState_53 rfl ?_
              refine GX_getR hC fkX10_58 ol_62 rfl dX10_solveState_54 ?_
              refine GX_iload hC dX10_solveState_57 rfl ?_
              obtain ⟨x40, e41, h42⟩ := ob h39
              refine GX_ldB hC e41 al_79 dX10_solveState_59 ?_
              refine GX_ifb_ne hC 67 dX10_solveState_60 (by decide) (fun q => ?_) (fun q => ?_)
              · skip
                exact hc37 (cbnT q h42)
              · skip
                exact hc36 (cbnF q h42)
          refine GX_istore hC [some (.ref (gad Γ 62)), some (.int state1), some (.int p2), some (.int unit8), some (.int (bI c32)), some (.int best10), some (.int moves11), some (.int f12), some (.int then29), none] dX10_solveState_68 (by decide) rfl rfl ?_
          refine GX_aload_n hC dX10_solveState_70 rfl ?_
          refine GX_getR hC fkX10_62 ol_62 rfl dX10_solveState_71 ?_
          refine GX_iload hC dX10_solveState_74 rfl ?_
          obtain ⟨x43, e44, h45⟩ := ob h34
          refine GX_ldA hC e44 al_80 dX10_solveState_76 ?_
          obtain ⟨x46, e47, h48⟩ := ob h45
          suffices hJ49 : GX Γ LAY 0 0 [some (.ref (gad Γ 62)), some (.int state1), some (.int p2), some (.int unit8), some (.int (bI c32)), some (.int best10), some (.int moves11), some (.int f12), some (.int then29), none] [.int x46, .int x43] m3 86 by
            refine GX_iload_n hC dX10_solveState_77 rfl ?_
            refine GX_if_ne_N hC 85 dX10_solveState_78 (by decide) (fun q => ?_) (fun q => ?_)
            · skip
              have h50 := ifP q e47
              refine GX_iconst hC 1 dX10_solveState_81 rfl ?_
              refine GX_goto hC 86 dX10_solveState_82 (by decide) ?_
              exact GX_nm (oi h50) hJ49
            · skip
              have h51 := ifN q e47
              refine GX_iconst hC (-1) dX10_solveState_85 rfl ?_
              exact GX_nm (oi h51) hJ49
          refine GX_iadd hC dX10_solveState_86 ?_
          obtain ⟨v52, e53, h54⟩ := ob h48
          refine GX_nm (oi e53) ?_
          refine GX_istore hC [some (.ref (gad Γ 62)), some (.int state1), some (.int p2), some (.int unit8), some (.int (bI c32)), some (.int best10), some (.int moves11), some (.int f12), some (.int then29), some (.int v52)] dX10_solveState_87 (by decide) rfl rfl ?_
          obtain ⟨x55, e56, h57⟩ := ob h54
          suffices hJ58 : GX Γ LAY 0 0 [some (.ref (gad Γ 62)), some (.int state1), some (.int p2), some (.int unit8), some (.int (bI c32)), some (.int best10), some (.int moves11), some (.int f12), some (.int then29), some (.int v52)] [.int x55] m3 122 by
            obtain ⟨c59, e60, h61⟩ := ob e56
            have hc62 : true = c59 → GX Γ LAY 0 0 [some (.ref (gad Γ 62)), some (.int state1), some (.int p2), some (.int unit8), some (.int (bI c32)), some (.int best10), some (.int moves11), some (.int f12), some (.int then29), some (.int v52)] [] m3 115 := by
              intro q
              have h63 := ifT q.symm h61
              refine GX_iload hC dX10_solveState_115 rfl ?_
              refine GX_goto hC 122 dX10_solveState_117 (by decide) ?_
              exact GX_nm (oi h63) hJ58
            have hc64 : false = c59 → GX Γ LAY 0 0 [some (.ref (gad Γ 62)), some (.int state1), some (.int p2), some (.int unit8), some (.int (bI c32)), some (.int best10), some (.int moves11), some (.int f12), some (.int then29), some (.int v52)] [] m3 120 := by
              intro q
              have h65 := ifF q.symm h61
              refine GX_iload hC dX10_solveState_120 rfl ?_
              exact GX_nm (oi h65) hJ58
            refine GX_iload hC dX10_solveState_89 rfl ?_
            refine GX_if_eq_P hC 115 dX10_solveState_91 (by decide) (fun q => ?_) (fun q => ?_)
            · skip
              have h66 := ifP q e60
              exact hc62 (oi h66)
            · skip
              have h67 := ifN q e60
              refine GX_iload_n hC dX10_solveState_94 rfl ?_
              refine GX_if_ne_N hC 108 dX10_solveState_95 (by decide) (fun q => ?_) (fun q => ?_)
              · skip
                have h68 := ifP q h67
                refine GX_iload hC dX10_solveState_98 rfl ?_
                refine GX_iload hC dX10_solveState_100 rfl ?_
                refine GX_icmp_le_N hC 120 dX10_solveState_102 (by decide) (fun q => ?_) (fun q => ?_)
                · skip
                  refine GX_goto hC 115 dX10_solveState_105 (by decide) ?_
                  exact hc62 (cdT q h68)
                · skip
                  exact hc64 (cdF q h68)
              · skip
                have h69 := ifN q h67
                refine GX_iload hC dX10_solveState_108 rfl ?_
                refine GX_iload hC dX10_solveState_110 rfl ?_
                refine GX_icmp_ge_N hC 120 dX10_solveState_112 (by decide) (fun q => ?_) (fun q => ?_)
                · skip
                  exact hc62 (cdT q h69)
                · skip
                  exact hc64 (cdF q h69)
          refine GX_istore hC [some (.ref (gad Γ 62)), some (.int state1), some (.int p2), some (.int unit8), some (.int (bI c32)), some (.int x55), some (.int moves11), some (.int f12), some (.int then29), some (.int v52)] dX10_solveState_122 (by decide) rfl rfl ?_
          obtain ⟨i70, e71, h72⟩ := ob h57
          refine GX_iinc hC i70 [some (.ref (gad Γ 62)), some (.int state1), some (.int p2), some (.int unit8), some (.int (bI c32)), some (.int x55), some (.int i70), some (.int f12), some (.int then29), some (.int v52)] dX10_solveState_124 rfl (oi e71) (by decide) rfl rfl ?_
          exact GX.le (hJ24 _ _ _ (oi h72)) ⟨rfl, ⟨rfl, ⟨rfl, ⟨rfl, ⟨rfl, ⟨rfl, ⟨rfl, ⟨rfl, trivial⟩⟩⟩⟩⟩⟩⟩⟩
        · skip
          have h73 := ifF q h27
          exact (hJ24 _ _ _ (oi h73))
      intro won21 best22 moves23 q74
      subst q74
      refine GX_iload_n hC dX10_solveState_127 rfl ?_
      refine GX_iconst hC 3 dX10_solveState_128 rfl ?_
      refine GX_imul hC dX10_solveState_129 ?_
      obtain ⟨unit75, e76, h77⟩ := ob h20
      refine GX_nm (oi e76) ?_
      refine GX_istore_n hC [some (.ref (gad Γ 62)), some (.int state1), some (.int p2), some (.int unit75), some (.int (bI won21)), some (.int best22), some (.int moves23), some (.int f12), none, none] dX10_solveState_130 (by decide) rfl rfl ?_
      obtain ⟨i78, e79, h80⟩ := ob h77
      refine GX_iinc hC i78 [some (.ref (gad Γ 62)), some (.int state1), some (.int p2), some (.int unit75), some (.int (bI won21)), some (.int best22), some (.int moves23), some (.int i78), none, none] dX10_solveState_131 rfl (oi e79) (by decide) rfl rfl ?_
      refine GX_goto hC 14 dX10_solveState_134 (by decide) ?_
      exact hI7 _ (oi h80).symm
    · skip
      have h81 := ifN q hx7
      exact GX.le (hJ7 _ _ _ _ (hO7 _ (oi h81).symm)) ⟨rfl, ⟨rfl, ⟨rfl, ⟨rfl, ⟨rfl, ⟨rfl, ⟨rfl, trivial⟩⟩⟩⟩⟩⟩⟩
  intro unit13 won14 best15 moves16 q82
  subst q82
  refine GX_aload_n hC dX10_solveState_137 rfl ?_
  refine GX_getR hC fkX10_58 ol_62 rfl dX10_solveState_138 ?_
  refine GX_iconst hC 2 dX10_solveState_141 rfl ?_
  refine GX_iload_n hC dX10_solveState_142 rfl ?_
  refine GX_imul hC dX10_solveState_143 ?_
  refine GX_iload_n hC dX10_solveState_144 rfl ?_
  refine GX_iadd hC dX10_solveState_145 ?_
  refine GX_iload hC dX10_solveState_146 rfl ?_
  obtain ⟨m83, e84, h85⟩ := ob h6
  refine GX_stB hC e84 al_79 dX10_solveState_148 ?_
  refine GX_aload_n hC dX10_solveState_149 rfl ?_
  refine GX_getR hC fkX10_62 ol_62 rfl dX10_solveState_150 ?_
  refine GX_iconst hC 2 dX10_solveState_153 rfl ?_
  refine GX_iload_n hC dX10_solveState_154 rfl ?_
  refine GX_imul hC dX10_solveState_155 ?_
  refine GX_iload_n hC dX10_solveState_156 rfl ?_
  refine GX_iadd hC dX10_solveState_157 ?_
  refine GX_iload hC dX10_solveState_158 rfl ?_
  obtain ⟨m86, e87, h88⟩ := ob h85
  refine GX_stA hC e87 al_80 dX10_solveState_160 ?_
  refine GX_aload_n hC dX10_solveState_161 rfl ?_
  refine GX_getR hC fkX10_68 ol_62 rfl dX10_solveState_162 ?_
  refine GX_iconst hC 2 dX10_solveState_165 rfl ?_
  refine GX_iload_n hC dX10_solveState_166 rfl ?_
  refine GX_imul hC dX10_solveState_167 ?_
  refine GX_iload_n hC dX10_solveState_168 rfl ?_
  refine GX_iadd hC dX10_solveState_169 ?_
  obtain ⟨c89, e90, h91⟩ := ob h88
  suffices hJ92 : GX Γ LAY 0 0 [some (.ref (gad Γ 62)), some (.int state1), some (.int p2), some (.int unit13), some (.int (bI won14)), some (.int best15), some (.int moves16), none, none, none] [.int (bI c89), .int ((2 * state1) + p2), .ref (gad Γ 82)] m86 180 by
    have hc93 : true = c89 → GX Γ LAY 0 0 [some (.ref (gad Γ 62)), some (.int state1), some (.int p2), some (.int unit13), some (.int (bI won14)), some (.int best15), some (.int moves16), none, none, none] [.int ((2 * state1) + p2), .ref (gad Γ 82)] m86 175 := by
      intro q
      subst q
      refine GX_iconst hC (bI true) dX10_solveState_175 rfl ?_
      refine GX_goto hC 180 dX10_solveState_176 (by decide) ?_
      exact hJ92
    have hc94 : false = c89 → GX Γ LAY 0 0 [some (.ref (gad Γ 62)), some (.int state1), some (.int p2), some (.int unit13), some (.int (bI won14)), some (.int best15), some (.int moves16), none, none, none] [.int ((2 * state1) + p2), .ref (gad Γ 82)] m86 179 := by
      intro q
      subst q
      refine GX_iconst hC (bI false) dX10_solveState_179 rfl ?_
      exact hJ92
    refine GX_iload hC dX10_solveState_170 rfl ?_
    refine GX_if_ne_N hC 179 dX10_solveState_172 (by decide) (fun q => ?_) (fun q => ?_)
    · skip
      exact hc93 (cdT q e90)
    · skip
      exact hc94 (cdF q e90)
  obtain ⟨m95, e96, h97⟩ := ob h91
  refine GX_stB hC e96 al_82 dX10_solveState_180 ?_
  exact GX_vretW hC hR dX10_solveState_181 (oi h97)
set_option maxRecDepth 100000 in
set_option maxHeartbeats 4000000 in
theorem C_M_solveGame {l : Launch} {m1 : MI} {mr : MI}  (hf : M_solveGame m1 = some mr) : Cn l yX10_solveGame cX10_solveGame 5 none 3 LAY (fun ad => .ref (ad 62) :: []) m1 (fun _ => none) mr := by
  refine Cn.of (fun ad => [some (.ref (ad 62)), none, none, none, none]) (by decide +kernel) (fun _ => rfl) (fun _ => Nat.le_of_ble_eq_true rfl) (fun Γ hl hC hR hk => ?_)
  subst hl
  replace hC : CX Γ cX10_solveGame RX10 LAY 3 5 := hC
  dsimp only [M_solveGame] at hf
  refine GX_iconst hC 0 dX10_solveGame_0 rfl ?_
  refine GX_istore_n hC [some (.ref (gad Γ 62)), some (.int 0), none, none, none] dX10_solveGame_1 (by decide) rfl rfl ?_
  obtain ⟨o2, e3, h4⟩ := ob hf
  suffices hJ5 : ∀ (m8 : MI), m8 = o2 → GX Γ LAY 0 0 [some (.ref (gad Γ 62)), none, none, none, none] [] m8 155 by
    refine lp_walk (P := fun s => GX Γ LAY 0 0 [some (.ref (gad Γ 62)), some (.int s.1), none, none, none] [] s.2 2) (fun s x hx5 hI5 hO5 => ?_) _ _ e3
    obtain ⟨n6, m7⟩ := s
    show GX Γ LAY 0 0 [some (.ref (gad Γ 62)), some (.int n6), none, none, none] [] m7 2
    dsimp only [M_solveGame_s1] at hx5
    refine GX_iload_n hC dX10_solveGame_2 rfl ?_
    refine GX_aload_n hC dX10_solveGame_3 rfl ?_
    refine GX_getI hC fkX10_103 ol_62 rfl dX10_solveGame_4 ?_
    refine GX_icmp_gt_N hC 155 dX10_solveGame_7 (by decide) (fun q => ?_) (fun q => ?_)
    · skip
      have h9 := ifP q hx5
      refine GX_iconst hC 0 dX10_solveGame_10 rfl ?_
      refine GX_istore_n hC [some (.ref (gad Γ 62)), some (.int n6), some (.int 0), none, none] dX10_solveGame_11 (by decide) rfl rfl ?_
      obtain ⟨o10, e11, h12⟩ := ob h9
      suffices hJ13 : ∀ (m16 : MI), m16 = o10 → GX Γ LAY 0 0 [some (.ref (gad Γ 62)), some (.int n6), none, none, none] [] m16 149 by
        refine lp_walk (P := fun s => GX Γ LAY 0 0 [some (.ref (gad Γ 62)), some (.int n6), some (.int s.1), none, none] [] s.2 12) (fun s x hx13 hI13 hO13 => ?_) _ _ e11
        obtain ⟨state14, m15⟩ := s
        show GX Γ LAY 0 0 [some (.ref (gad Γ 62)), some (.int n6), some (.int state14), none, none] [] m15 12
        dsimp only [M_solveGame_s2] at hx13
        refine GX_iload_n hC dX10_solveGame_12 rfl ?_
        refine GX_sipush hC 729 dX10_solveGame_13 rfl ?_
        refine GX_icmp_ge_N hC 149 dX10_solveGame_16 (by decide) (fun q => ?_) (fun q => ?_)
        · skip
          have h17 := ifP q hx13
          refine GX_aload_n hC dX10_solveGame_19 rfl ?_
          refine GX_iload_n hC dX10_solveGame_20 rfl ?_
          obtain ⟨m18, e19, h20⟩ := ob h17
          refine GX_callV_v (st := []) hC (C_M_spreadGame e19) okX10_spreadGame lkX10_289 ol_62 rfl rfl (Nat.le_of_ble_eq_true rfl) (Nat.le_of_ble_eq_true rfl) hk rfl (Nat.le_of_ble_eq_true rfl) dX10_solveGame_21 ?_
          obtain ⟨o21, e22, h23⟩ := ob h20
          suffices hJ25 : ∀ (m24 : MI), m24 = o21 → GX Γ LAY 0 0 [some (.ref (gad Γ 62)), some (.int n6), some (.int state14), none, none] [] m24 143 by
            refine GX_aload_n hC dX10_solveGame_24 rfl ?_
            obtain ⟨r26, e27, h28⟩ := ob e22
            refine GX_callV_i (st := []) hC (C_M_free e27) okX10_free lkX10_292 ol_62 rfl rfl (Nat.le_of_ble_eq_true rfl) (Nat.le_of_ble_eq_true rfl) hk rfl (Nat.le_of_ble_eq_true rfl) dX10_solveGame_25 ?_
            refine GX_iload_n hC dX10_solveGame_28 rfl ?_
            refine GX_icmp_ne_N hC 143 dX10_solveGame_29 (by decide) (fun q => ?_) (fun q => ?_)
            · skip
              have h29 := ifP q h28
              refine GX_aload_n hC dX10_solveGame_32 rfl ?_
              refine GX_iload_n hC dX10_solveGame_33 rfl ?_
              refine GX_iconst hC 0 dX10_solveGame_34 rfl ?_
              obtain ⟨m30, e31, h32⟩ := ob h29
              refine GX_callV_v (st := []) hC (C_M_solveState e31) okX10_solveState lkX10_295 ol_62 rfl rfl (Nat.le_of_ble_eq_true rfl) (Nat.le_of_ble_eq_true rfl) hk rfl (Nat.le_of_ble_eq_true rfl) dX10_solveGame_35 ?_
              refine GX_aload_n hC dX10_solveGame_38 rfl ?_
              refine GX_iload_n hC dX10_solveGame_39 rfl ?_
              refine GX_iconst hC 1 dX10_solveGame_40 rfl ?_
              obtain ⟨m33, e34, h35⟩ := ob h32
              refine GX_callV_v (st := []) hC (C_M_solveState e34) okX10_solveState lkX10_295 ol_62 rfl rfl (Nat.le_of_ble_eq_true rfl) (Nat.le_of_ble_eq_true rfl) hk rfl (Nat.le_of_ble_eq_true rfl) dX10_solveGame_41 ?_
              refine GX_aload_n hC dX10_solveGame_44 rfl ?_
              refine GX_getR hC fkX10_62 ol_62 rfl dX10_solveGame_45 ?_
              refine GX_iconst hC 2 dX10_solveGame_48 rfl ?_
              refine GX_iload_n hC dX10_solveGame_49 rfl ?_
              refine GX_imul hC dX10_solveGame_50 ?_
              obtain ⟨x36, e37, h38⟩ := ob h35
              refine GX_ldA hC e37 al_80 dX10_solveGame_51 ?_
              refine GX_istore_n hC [some (.ref (gad Γ 62)), some (.int n6), some (.int state14), some (.int x36), none] dX10_solveGame_52 (by decide) rfl rfl ?_
              refine GX_aload_n hC dX10_solveGame_53 rfl ?_
              refine GX_getR hC fkX10_62 ol_62 rfl dX10_solveGame_54 ?_
              refine GX_iconst hC 2 dX10_solveGame_57 rfl ?_
              refine GX_iload_n hC dX10_solveGame_58 rfl ?_
              refine GX_imul hC dX10_solveGame_59 ?_
              refine GX_iconst hC 1 dX10_solveGame_60 rfl ?_
              refine GX_iadd hC dX10_solveGame_61 ?_
              obtain ⟨x39, e40, h41⟩ := ob h38
              refine GX_ldA hC e40 al_80 dX10_solveGame_62 ?_
              refine GX_istore hC [some (.ref (gad Γ 62)), some (.int n6), some (.int state14), some (.int x36), some (.int x39)] dX10_solveGame_63 (by decide) rfl rfl ?_
              refine GX_aload_n hC dX10_solveGame_65 rfl ?_
              refine GX_getR hC fkX10_62 ol_62 rfl dX10_solveGame_66 ?_
              refine GX_iconst hC 2 dX10_solveGame_69 rfl ?_
              refine GX_iload_n hC dX10_solveGame_70 rfl ?_
              refine GX_imul hC dX10_solveGame_71 ?_
              obtain ⟨x42, e43, h44⟩ := ob h41
              suffices hJ45 : GX Γ LAY 0 0 [some (.ref (gad Γ 62)), some (.int n6), some (.int state14), some (.int x36), some (.int x39)] [.int x42, .int (2 * state14), .ref (gad Γ 80)] m33 102 by
                obtain ⟨c46, e47, h48⟩ := ob e43
                have hc49 : true = c46 → GX Γ LAY 0 0 [some (.ref (gad Γ 62)), some (.int n6), some (.int state14), some (.int x36), some (.int x39)] [.int (2 * state14), .ref (gad Γ 80)] m33 96 := by
                  intro q
                  have h50 := ifT q.symm h48
                  refine GX_iload hC dX10_solveGame_96 rfl ?_
                  refine GX_goto hC 102 dX10_solveGame_98 (by decide) ?_
                  exact GX_nm (oi h50) hJ45
                have hc51 : false = c46 → GX Γ LAY 0 0 [some (.ref (gad Γ 62)), some (.int n6), some (.int state14), some (.int x36), some (.int x39)] [.int (2 * state14), .ref (gad Γ 80)] m33 101 := by
                  intro q
                  have h52 := ifF q.symm h48
                  refine GX_iload_n hC dX10_solveGame_101 rfl ?_
                  exact GX_nm (oi h52) hJ45
                refine GX_aload_n hC dX10_solveGame_72 rfl ?_
                refine GX_getR hC fkX10_68 ol_62 rfl dX10_solveGame_73 ?_
                refine GX_iconst hC 2 dX10_solveGame_76 rfl ?_
                refine GX_iload_n hC dX10_solveGame_77 rfl ?_
                refine GX_imul hC dX10_solveGame_78 ?_
                obtain ⟨x53, e54, h55⟩ := ob e47
                refine GX_ldB hC e54 al_82 dX10_solveGame_79 ?_
                refine GX_ifb_eq hC 101 dX10_solveGame_80 (by decide) (fun q => ?_) (fun q => ?_)
                · skip
                  have h56 := ifT q h55
                  refine GX_aload_n hC dX10_solveGame_83 rfl ?_
                  refine GX_getR hC fkX10_68 ol_62 rfl dX10_solveGame_84 ?_
                  refine GX_iconst hC 2 dX10_solveGame_87 rfl ?_
                  refine GX_iload_n hC dX10_solveGame_88 rfl ?_
                  refine GX_imul hC dX10_solveGame_89 ?_
                  refine GX_iconst hC 1 dX10_solveGame_90 rfl ?_
                  refine GX_iadd hC dX10_solveGame_91 ?_
                  obtain ⟨x57, e58, h59⟩ := ob h56
                  refine GX_ldB hC e58 al_82 dX10_solveGame_92 ?_
                  refine GX_ifb_ne hC 101 dX10_solveGame_93 (by decide) (fun q => ?_) (fun q => ?_)
                  · skip
                    exact hc51 (cbnT q h59)
                  · skip
                    exact hc49 (cbnF q h59)
                · skip
                  have h60 := ifF q h55
                  exact hc51 (oi h60)
              obtain ⟨m61, e62, h63⟩ := ob h44
              refine GX_stA hC e62 al_80 dX10_solveGame_102 ?_
              refine GX_aload_n hC dX10_solveGame_103 rfl ?_
              refine GX_getR hC fkX10_62 ol_62 rfl dX10_solveGame_104 ?_
              refine GX_iconst hC 2 dX10_solveGame_107 rfl ?_
              refine GX_iload_n hC dX10_solveGame_108 rfl ?_
              refine GX_imul hC dX10_solveGame_109 ?_
              refine GX_iconst hC 1 dX10_solveGame_110 rfl ?_
              refine GX_iadd hC dX10_solveGame_111 ?_
              obtain ⟨x64, e65, h66⟩ := ob h63
              suffices hJ67 : GX Γ LAY 0 0 [some (.ref (gad Γ 62)), some (.int n6), some (.int state14), some (.int x36), some (.int x39)] [.int x64, .int ((2 * state14) + 1), .ref (gad Γ 80)] m61 142 by
                obtain ⟨c68, e69, h70⟩ := ob e65
                have hc71 : true = c68 → GX Γ LAY 0 0 [some (.ref (gad Γ 62)), some (.int n6), some (.int state14), some (.int x36), some (.int x39)] [.int ((2 * state14) + 1), .ref (gad Γ 80)] m61 136 := by
                  intro q
                  have h72 := ifT q.symm h70
                  refine GX_iload_n hC dX10_solveGame_136 rfl ?_
                  refine GX_goto hC 142 dX10_solveGame_137 (by decide) ?_
                  exact GX_nm (oi h72) hJ67
                have hc73 : false = c68 → GX Γ LAY 0 0 [some (.ref (gad Γ 62)), some (.int n6), some (.int state14), some (.int x36), some (.int x39)] [.int ((2 * state14) + 1), .ref (gad Γ 80)] m61 140 := by
                  intro q
                  have h74 := ifF q.symm h70
                  refine GX_iload hC dX10_solveGame_140 rfl ?_
                  exact GX_nm (oi h74) hJ67
                refine GX_aload_n hC dX10_solveGame_112 rfl ?_
                refine GX_getR hC fkX10_68 ol_62 rfl dX10_solveGame_113 ?_
                refine GX_iconst hC 2 dX10_solveGame_116 rfl ?_
                refine GX_iload_n hC dX10_solveGame_117 rfl ?_
                refine GX_imul hC dX10_solveGame_118 ?_
                refine GX_iconst hC 1 dX10_solveGame_119 rfl ?_
                refine GX_iadd hC dX10_solveGame_120 ?_
                obtain ⟨x75, e76, h77⟩ := ob e69
                refine GX_ldB hC e76 al_82 dX10_solveGame_121 ?_
                refine GX_ifb_eq hC 140 dX10_solveGame_122 (by decide) (fun q => ?_) (fun q => ?_)
                · skip
                  have h78 := ifT q h77
                  refine GX_aload_n hC dX10_solveGame_125 rfl ?_
                  refine GX_getR hC fkX10_68 ol_62 rfl dX10_solveGame_126 ?_
                  refine GX_iconst hC 2 dX10_solveGame_129 rfl ?_
                  refine GX_iload_n hC dX10_solveGame_130 rfl ?_
                  refine GX_imul hC dX10_solveGame_131 ?_
                  obtain ⟨x79, e80, h81⟩ := ob h78
                  refine GX_ldB hC e80 al_82 dX10_solveGame_132 ?_
                  refine GX_ifb_ne hC 140 dX10_solveGame_133 (by decide) (fun q => ?_) (fun q => ?_)
                  · skip
                    exact hc73 (cbnT q h81)
                  · skip
                    exact hc71 (cbnF q h81)
                · skip
                  have h82 := ifF q h77
                  exact hc73 (oi h82)
              obtain ⟨m83, e84, h85⟩ := ob h66
              refine GX_stA hC e84 al_80 dX10_solveGame_142 ?_
              exact GX.le (hJ25 _ (oi h85)) ⟨rfl, ⟨rfl, ⟨rfl, trivial⟩⟩⟩
            · skip
              have h86 := ifN q h28
              exact (hJ25 _ (oi h86))
          intro m24 q87
          subst q87
          obtain ⟨i88, e89, h90⟩ := ob h23
          refine GX_iinc hC i88 [some (.ref (gad Γ 62)), some (.int n6), some (.int i88), none, none] dX10_solveGame_143 rfl (oi e89) (by decide) rfl rfl ?_
          refine GX_goto hC 12 dX10_solveGame_146 (by decide) ?_
          exact hI13 _ (oi h90).symm
        · skip
          have h91 := ifN q hx13
          exact GX.le (hJ13 _ (hO13 _ (oi h91).symm)) ⟨rfl, ⟨rfl, trivial⟩⟩
      intro m16 q92
      subst q92
      obtain ⟨i93, e94, h95⟩ := ob h12
      refine GX_iinc hC i93 [some (.ref (gad Γ 62)), some (.int i93), none, none, none] dX10_solveGame_149 rfl (oi e94) (by decide) rfl rfl ?_
      refine GX_goto hC 2 dX10_solveGame_152 (by decide) ?_
      exact hI5 _ (oi h95).symm
    · skip
      have h96 := ifN q hx5
      exact GX.le (hJ5 _ (hO5 _ (oi h96).symm)) ⟨rfl, trivial⟩
  intro m8 q97
  subst q97
  exact GX_vretW hC hR dX10_solveGame_155 (oi h4)
set_option maxRecDepth 100000 in
set_option maxHeartbeats 4000000 in
theorem C_M_game {l : Launch} {what1 : Int32} {m2 : MI} {r0 : Int32} {mr : MI}  (hf : M_game what1 m2 = some (r0, mr)) : Cn l yX10_game cX10_game 4 (some .int) 4 LAY (fun ad => .ref (ad 62) :: [.int what1]) m2 (fun _ => some (.int r0)) mr := by
  refine Cn.of (fun ad => [some (.ref (ad 62)), some (.int what1), none, none]) (by decide +kernel) (fun _ => rfl) (fun _ => Nat.le_of_ble_eq_true rfl) (fun Γ hl hC hR hk => ?_)
  subst hl
  replace hC : CX Γ cX10_game RX10 LAY 4 4 := hC
  dsimp only [M_game] at hf
  refine GX_aload_n hC dX10_game_0 rfl ?_
  refine GX_iconst hC 0 dX10_game_1 rfl ?_
  obtain ⟨m3, e4, h5⟩ := ob hf
  refine GX_stF hC e4 fkX10_99 ftX10_10 ol_62 rfl dX10_game_2 ?_
  refine GX_iload_n hC dX10_game_5 rfl ?_
  refine GX_i2l hC dX10_game_6 ?_
  refine GX_lconst hC 0 dX10_game_7 rfl ?_
  refine GX_lconst hC 1 dX10_game_8 rfl ?_
  obtain ⟨b6, e7, h8⟩ := ob h5
  refine GX_callS_i (st := []) hC (C_M_in e7) okX10_in lkX10_106 rfl (Nat.le_of_ble_eq_true rfl) (Nat.le_of_ble_eq_true rfl) hk rfl (Nat.le_of_ble_eq_true rfl) dX10_game_9 ?_
  refine GX_ifb_ne hC 17 dX10_game_12 (by decide) (fun q => ?_) (fun q => ?_)
  · skip
    have h9 := ifT q h8
    refine GX_aload_n hC dX10_game_17 rfl ?_
    refine GX_getI hC fkX10_110 ol_62 rfl dX10_game_18 ?_
    refine GX_iconst hC 2 dX10_game_21 rfl ?_
    refine GX_icmp_ge_N hC 28 dX10_game_22 (by decide) (fun q => ?_) (fun q => ?_)
    · skip
      have h10 := ifP q h9
      refine GX_bipush hC (-3) dX10_game_25 rfl ?_
      exact GX_iretW hC hR dX10_game_27 (oi h10)
    · skip
      have h11 := ifN q h9
      refine GX_aload_n hC dX10_game_28 rfl ?_
      obtain ⟨m12, e13, h14⟩ := ob h11
      refine GX_callV_v (st := []) hC (C_M_solveGame e13) okX10_solveGame lkX10_298 ol_62 rfl rfl (Nat.le_of_ble_eq_true rfl) (Nat.le_of_ble_eq_true rfl) hk rfl (Nat.le_of_ble_eq_true rfl) dX10_game_29 ?_
      refine GX_iload_n hC dX10_game_32 rfl ?_
      refine GX_if_ne_N hC 51 dX10_game_33 (by decide) (fun q => ?_) (fun q => ?_)
      · skip
        have h15 := ifP q h14
        obtain ⟨x16, e17, h18⟩ := ob h15
        suffices hJ19 : GX Γ LAY 0 0 [some (.ref (gad Γ 62)), some (.int what1), none, none] [.int x16] m12 50 by
          refine GX_aload_n hC dX10_game_36 rfl ?_
          refine GX_getR hC fkX10_58 ol_62 rfl dX10_game_37 ?_
          refine GX_iconst hC 0 dX10_game_40 rfl ?_
          obtain ⟨x20, e21, h22⟩ := ob e17
          refine GX_ldB hC e21 al_79 dX10_game_41 ?_
          refine GX_ifb_eq hC 49 dX10_game_42 (by decide) (fun q => ?_) (fun q => ?_)
          · skip
            have h23 := ifT q h22
            refine GX_iconst hC 1 dX10_game_45 rfl ?_
            refine GX_goto hC 50 dX10_game_46 (by decide) ?_
            exact GX_nm (oi h23) hJ19
          · skip
            have h24 := ifF q h22
            refine GX_iconst hC 0 dX10_game_49 rfl ?_
            exact GX_nm (oi h24) hJ19
        exact GX_iretW hC hR dX10_game_50 (oi h18)
      · skip
        have h25 := ifN q h14
        refine GX_aload_n hC dX10_game_51 rfl ?_
        refine GX_iconst hC 0 dX10_game_52 rfl ?_
        obtain ⟨m26, e27, h28⟩ := ob h25
        refine GX_callV_v (st := []) hC (C_M_spreadGame e27) okX10_spreadGame lkX10_289 ol_62 rfl rfl (Nat.le_of_ble_eq_true rfl) (Nat.le_of_ble_eq_true rfl) hk rfl (Nat.le_of_ble_eq_true rfl) dX10_game_53 ?_
        refine GX_iconst hC 1 dX10_game_56 rfl ?_
        refine GX_istore_n hC [some (.ref (gad Γ 62)), some (.int what1), some (.int 1), none] dX10_game_57 (by decide) rfl rfl ?_
        refine GX_iconst hC 0 dX10_game_58 rfl ?_
        refine GX_istore_n hC [some (.ref (gad Γ 62)), some (.int what1), some (.int 1), some (.int 0)] dX10_game_59 (by decide) rfl rfl ?_
        obtain ⟨o29, e30, h31⟩ := ob h28
        have hR32 : ∀ res : Int32 × MI, Sum.inr res = o29 → res = (r0, mr) := by
          intro res q
          subst q
          have h31 := seR h31
          exact (oi h31)
        suffices hJ32 : ∀ (unit35 : Int32), Sum.inl unit35 = o29 → GX Γ LAY 0 0 [some (.ref (gad Γ 62)), some (.int what1), some (.int unit35), none] [] m26 102 by
          refine lp_walk (P := fun s => GX Γ LAY 0 0 [some (.ref (gad Γ 62)), some (.int what1), some (.int s.1), some (.int s.2)] [] m26 60) (fun s x hx32 hI32 hO32 => ?_) _ _ e30
          obtain ⟨unit33, f34⟩ := s
          show GX Γ LAY 0 0 [some (.ref (gad Γ 62)), some (.int what1), some (.int unit33), some (.int f34)] [] m26 60
          dsimp only [M_game_s1] at hx32
          refine GX_iload_n hC dX10_game_60 rfl ?_
          refine GX_aload_n hC dX10_game_61 rfl ?_
          refine GX_getI hC fkX10_103 ol_62 rfl dX10_game_62 ?_
          refine GX_icmp_ge_N hC 102 dX10_game_65 (by decide) (fun q => ?_) (fun q => ?_)
          · skip
            have h36 := ifP q hx32
            obtain ⟨c37, e38, h39⟩ := ob h36
            have hc40 : true = c37 → GX Γ LAY 0 0 [some (.ref (gad Γ 62)), some (.int what1), some (.int unit33), some (.int f34)] [] m26 90 := by
              intro q
              have h41 := ifT q.symm h39
              refine GX_iload_n hC dX10_game_90 rfl ?_
              exact GX_iretW hC hR dX10_game_91 (hR32 _ (hO32 _ (oi h41).symm))
            have hc42 : false = c37 → GX Γ LAY 0 0 [some (.ref (gad Γ 62)), some (.int what1), some (.int unit33), some (.int f34)] [] m26 92 := by
              intro q
              have h43 := ifF q.symm h39
              refine GX_iload_n hC dX10_game_92 rfl ?_
              refine GX_iconst hC 3 dX10_game_93 rfl ?_
              refine GX_imul hC dX10_game_94 ?_
              obtain ⟨unit44, e45, h46⟩ := ob h43
              refine GX_nm (oi e45) ?_
              refine GX_istore_n hC [some (.ref (gad Γ 62)), some (.int what1), some (.int unit44), some (.int f34)] dX10_game_95 (by decide) rfl rfl ?_
              obtain ⟨i47, e48, h49⟩ := ob h46
              refine GX_iinc hC i47 [some (.ref (gad Γ 62)), some (.int what1), some (.int unit44), some (.int i47)] dX10_game_96 rfl (oi e48) (by decide) rfl rfl ?_
              refine GX_goto hC 60 dX10_game_99 (by decide) ?_
              exact hI32 _ (oi h49).symm
            refine GX_aload_n hC dX10_game_68 rfl ?_
            refine GX_iload_n hC dX10_game_69 rfl ?_
            refine GX_iconst hC 0 dX10_game_70 rfl ?_
            obtain ⟨b50, e51, h52⟩ := ob e38
            refine GX_callV_i (st := []) hC (C_M_canTake e51) okX10_canTake lkX10_286 ol_62 rfl rfl (Nat.le_of_ble_eq_true rfl) (Nat.le_of_ble_eq_true rfl) hk rfl (Nat.le_of_ble_eq_true rfl) dX10_game_71 ?_
            refine GX_ifb_eq hC 92 dX10_game_74 (by decide) (fun q => ?_) (fun q => ?_)
            · skip
              have h53 := ifT q h52
              refine GX_aload_n hC dX10_game_77 rfl ?_
              refine GX_getR hC fkX10_58 ol_62 rfl dX10_game_78 ?_
              refine GX_iconst hC 2 dX10_game_81 rfl ?_
              refine GX_iload_n hC dX10_game_82 rfl ?_
              refine GX_imul hC dX10_game_83 ?_
              refine GX_iconst hC 1 dX10_game_84 rfl ?_
              refine GX_iadd hC dX10_game_85 ?_
              obtain ⟨x54, e55, h56⟩ := ob h53
              refine GX_ldB hC e55 al_79 dX10_game_86 ?_
              refine GX_ifb_ne hC 92 dX10_game_87 (by decide) (fun q => ?_) (fun q => ?_)
              · skip
                exact hc42 (cbnT q h56)
              · skip
                exact hc40 (cbnF q h56)
            · skip
              have h57 := ifF q h52
              exact hc42 (oi h57)
          · skip
            have h58 := ifN q hx32
            exact GX.le (hJ32 _ (hO32 _ (oi h58).symm)) ⟨rfl, ⟨rfl, ⟨rfl, trivial⟩⟩⟩
        intro unit35 q59
        subst q59
        have h31 := seL h31
        refine GX_bipush hC (-4) dX10_game_102 rfl ?_
        exact GX_iretW hC hR dX10_game_104 (oi h31)
  · skip
    have h61 := ifF q h8
    refine GX_iconst hC (-1) dX10_game_15 rfl ?_
    exact GX_iretW hC hR dX10_game_16 (oi h61)
set_option maxRecDepth 100000 in
set_option maxHeartbeats 4000000 in
theorem C_M_value {l : Launch} {m1 : MI} {r0 : Int32} {mr : MI}  (hf : M_value m1 = some (r0, mr)) : Cn l yX10_value cX10_value 1 (some .int) 4 LAY (fun ad => .ref (ad 62) :: []) m1 (fun _ => some (.int r0)) mr := by
  refine Cn.of (fun ad => [some (.ref (ad 62))]) (by decide +kernel) (fun _ => rfl) (fun _ => Nat.le_of_ble_eq_true rfl) (fun Γ hl hC hR hk => ?_)
  subst hl
  replace hC : CX Γ cX10_value RX10 LAY 4 1 := hC
  dsimp only [M_value] at hf
  refine GX_aload_n hC dX10_value_0 rfl ?_
  refine GX_iconst hC 0 dX10_value_1 rfl ?_
  obtain ⟨m2, e3, h4⟩ := ob hf
  refine GX_stF hC e3 fkX10_99 ftX10_10 ol_62 rfl dX10_value_2 ?_
  refine GX_aload_n hC dX10_value_5 rfl ?_
  refine GX_getI hC fkX10_110 ol_62 rfl dX10_value_6 ?_
  refine GX_iconst hC 2 dX10_value_9 rfl ?_
  refine GX_icmp_ge_N hC 17 dX10_value_10 (by decide) (fun q => ?_) (fun q => ?_)
  · skip
    have h5 := ifP q h4
    refine GX_ldcw hC (-1000000003) kcX10_301 dX10_value_13 ?_
    exact GX_iretW hC hR dX10_value_16 (oi h5)
  · skip
    have h6 := ifN q h4
    refine GX_aload_n hC dX10_value_17 rfl ?_
    obtain ⟨m7, e8, h9⟩ := ob h6
    refine GX_callV_v (st := []) hC (C_M_solveGame e8) okX10_solveGame lkX10_298 ol_62 rfl rfl (Nat.le_of_ble_eq_true rfl) (Nat.le_of_ble_eq_true rfl) hk rfl (Nat.le_of_ble_eq_true rfl) dX10_value_18 ?_
    refine GX_aload_n hC dX10_value_21 rfl ?_
    refine GX_getR hC fkX10_62 ol_62 rfl dX10_value_22 ?_
    refine GX_iconst hC 0 dX10_value_25 rfl ?_
    obtain ⟨x10, e11, h12⟩ := ob h9
    refine GX_ldA hC e11 al_80 dX10_value_26 ?_
    exact GX_iretW hC hR dX10_value_27 (oi h12)
set_option maxRecDepth 100000 in
set_option maxHeartbeats 4000000 in
theorem C_M_doClash {l : Launch} {d1 : Int32} {i2 : Int32} {j3 : Int32} {m4 : MI} {r0 : Bool}  (hf : M_doClash d1 i2 j3 m4 = some r0) : Cn l yX10_doClash cX10_doClash 11 (some .boolean) 1 LAY (fun ad => .ref (ad 62) :: [.int d1, .int i2, .int j3]) m4 (fun _ => some (.int (bI r0))) m4 := by
  refine Cn.of (fun ad => [some (.ref (ad 62)), some (.int d1), some (.int i2), some (.int j3), none, none, none, none, none, none, none]) (by decide +kernel) (fun _ => rfl) (fun _ => Nat.le_of_ble_eq_true rfl) (fun Γ hl hC hR hk => ?_)
  subst hl
  replace hC : CX Γ cX10_doClash RX10 LAY 1 11 := hC
  dsimp only [M_doClash] at hf
  refine GX_aload_n hC dX10_doClash_0 rfl ?_
  refine GX_getR hC fkX10_92 ol_62 rfl dX10_doClash_1 ?_
  refine GX_bipush hC 100 dX10_doClash_4 rfl ?_
  refine GX_iload_n hC dX10_doClash_6 rfl ?_
  refine GX_imul hC dX10_doClash_7 ?_
  refine GX_iconst hC 3 dX10_doClash_8 rfl ?_
  refine GX_iload_n hC dX10_doClash_9 rfl ?_
  refine GX_imul hC dX10_doClash_10 ?_
  refine GX_iadd hC dX10_doClash_11 ?_
  obtain ⟨x5, e6, h7⟩ := ob hf
  refine GX_ldL hC e6 al_90 dX10_doClash_12 ?_
  refine GX_lstore hC [some (.ref (gad Γ 62)), some (.int d1), some (.int i2), some (.int j3), some (.long x5), none, none, none, none, none, none] dX10_doClash_13 (by decide) rfl rfl rfl ?_
  refine GX_aload_n hC dX10_doClash_15 rfl ?_
  refine GX_getR hC fkX10_92 ol_62 rfl dX10_doClash_16 ?_
  refine GX_bipush hC 100 dX10_doClash_19 rfl ?_
  refine GX_iload_n hC dX10_doClash_21 rfl ?_
  refine GX_imul hC dX10_doClash_22 ?_
  refine GX_iconst hC 3 dX10_doClash_23 rfl ?_
  refine GX_iload_n hC dX10_doClash_24 rfl ?_
  refine GX_imul hC dX10_doClash_25 ?_
  refine GX_iadd hC dX10_doClash_26 ?_
  obtain ⟨x8, e9, h10⟩ := ob h7
  refine GX_ldL hC e9 al_90 dX10_doClash_27 ?_
  refine GX_lstore hC [some (.ref (gad Γ 62)), some (.int d1), some (.int i2), some (.int j3), some (.long x5), none, some (.long x8), none, none, none, none] dX10_doClash_28 (by decide) rfl rfl rfl ?_
  refine GX_aload_n hC dX10_doClash_30 rfl ?_
  refine GX_getR hC fkX10_92 ol_62 rfl dX10_doClash_31 ?_
  refine GX_bipush hC 100 dX10_doClash_34 rfl ?_
  refine GX_iload_n hC dX10_doClash_36 rfl ?_
  refine GX_imul hC dX10_doClash_37 ?_
  refine GX_iconst hC 3 dX10_doClash_38 rfl ?_
  refine GX_iload_n hC dX10_doClash_39 rfl ?_
  refine GX_imul hC dX10_doClash_40 ?_
  refine GX_iadd hC dX10_doClash_41 ?_
  refine GX_iconst hC 1 dX10_doClash_42 rfl ?_
  refine GX_iadd hC dX10_doClash_43 ?_
  obtain ⟨x11, e12, h13⟩ := ob h10
  refine GX_ldL hC e12 al_90 dX10_doClash_44 ?_
  refine GX_l2i hC dX10_doClash_45 ?_
  obtain ⟨f14, e15, h16⟩ := ob h13
  refine GX_nm (oi e15) ?_
  refine GX_istore hC [some (.ref (gad Γ 62)), some (.int d1), some (.int i2), some (.int j3), some (.long x5), none, some (.long x8), none, some (.int f14), none, none] dX10_doClash_46 (by decide) rfl rfl ?_
  refine GX_aload_n hC dX10_doClash_48 rfl ?_
  refine GX_getR hC fkX10_92 ol_62 rfl dX10_doClash_49 ?_
  refine GX_bipush hC 100 dX10_doClash_52 rfl ?_
  refine GX_iload_n hC dX10_doClash_54 rfl ?_
  refine GX_imul hC dX10_doClash_55 ?_
  refine GX_iconst hC 3 dX10_doClash_56 rfl ?_
  refine GX_iload_n hC dX10_doClash_57 rfl ?_
  refine GX_imul hC dX10_doClash_58 ?_
  refine GX_iadd hC dX10_doClash_59 ?_
  refine GX_iconst hC 1 dX10_doClash_60 rfl ?_
  refine GX_iadd hC dX10_doClash_61 ?_
  obtain ⟨x17, e18, h19⟩ := ob h16
  refine GX_ldL hC e18 al_90 dX10_doClash_62 ?_
  refine GX_l2i hC dX10_doClash_63 ?_
  obtain ⟨g20, e21, h22⟩ := ob h19
  refine GX_nm (oi e21) ?_
  refine GX_istore hC [some (.ref (gad Γ 62)), some (.int d1), some (.int i2), some (.int j3), some (.long x5), none, some (.long x8), none, some (.int f14), some (.int g20), none] dX10_doClash_64 (by decide) rfl rfl ?_
  obtain ⟨c23, e24, h25⟩ := ob h22
  suffices hJ26 : GX Γ LAY 0 0 [some (.ref (gad Γ 62)), some (.int d1), some (.int i2), some (.int j3), some (.long x5), none, some (.long x8), none, some (.int f14), some (.int g20), none] [.int (bI c23)] m4 105 by
    have hc27 : true = c23 → GX Γ LAY 0 0 [some (.ref (gad Γ 62)), some (.int d1), some (.int i2), some (.int j3), some (.long x5), none, some (.long x8), none, some (.int f14), some (.int g20), none] [] m4 100 := by
      intro q
      subst q
      refine GX_iconst hC (bI true) dX10_doClash_100 rfl ?_
      refine GX_goto hC 105 dX10_doClash_101 (by decide) ?_
      exact hJ26
    have hc28 : false = c23 → GX Γ LAY 0 0 [some (.ref (gad Γ 62)), some (.int d1), some (.int i2), some (.int j3), some (.long x5), none, some (.long x8), none, some (.int f14), some (.int g20), none] [] m4 104 := by
      intro q
      subst q
      refine GX_iconst hC (bI false) dX10_doClash_104 rfl ?_
      exact hJ26
    refine GX_aload_n hC dX10_doClash_66 rfl ?_
    refine GX_getR hC fkX10_92 ol_62 rfl dX10_doClash_67 ?_
    refine GX_bipush hC 100 dX10_doClash_70 rfl ?_
    refine GX_iload_n hC dX10_doClash_72 rfl ?_
    refine GX_imul hC dX10_doClash_73 ?_
    refine GX_iconst hC 3 dX10_doClash_74 rfl ?_
    refine GX_iload_n hC dX10_doClash_75 rfl ?_
    refine GX_imul hC dX10_doClash_76 ?_
    refine GX_iadd hC dX10_doClash_77 ?_
    refine GX_iconst hC 2 dX10_doClash_78 rfl ?_
    refine GX_iadd hC dX10_doClash_79 ?_
    obtain ⟨x29, e30, h31⟩ := ob e24
    refine GX_ldL hC e30 al_90 dX10_doClash_80 ?_
    refine GX_aload_n hC dX10_doClash_81 rfl ?_
    refine GX_getR hC fkX10_92 ol_62 rfl dX10_doClash_82 ?_
    refine GX_bipush hC 100 dX10_doClash_85 rfl ?_
    refine GX_iload_n hC dX10_doClash_87 rfl ?_
    refine GX_imul hC dX10_doClash_88 ?_
    refine GX_iconst hC 3 dX10_doClash_89 rfl ?_
    refine GX_iload_n hC dX10_doClash_90 rfl ?_
    refine GX_imul hC dX10_doClash_91 ?_
    refine GX_iadd hC dX10_doClash_92 ?_
    refine GX_iconst hC 2 dX10_doClash_93 rfl ?_
    refine GX_iadd hC dX10_doClash_94 ?_
    obtain ⟨x32, e33, h34⟩ := ob h31
    refine GX_ldL hC e33 al_90 dX10_doClash_95 ?_
    refine GX_lc_ne_N hC 104 dX10_doClash_96 dX10_doClash_97 (by decide) (fun q => ?_) (fun q => ?_)
    · skip
      exact hc27 (cdT q h34)
    · skip
      exact hc28 (cdF q h34)
  refine GX_istore hC [some (.ref (gad Γ 62)), some (.int d1), some (.int i2), some (.int j3), some (.long x5), none, some (.long x8), none, some (.int f14), some (.int g20), some (.int (bI c23))] dX10_doClash_105 (by decide) rfl rfl ?_
  obtain ⟨c35, e36, h37⟩ := ob h25
  suffices hJ38 : GX Γ LAY 0 0 [some (.ref (gad Γ 62)), some (.int d1), some (.int i2), some (.int j3), some (.long x5), none, some (.long x8), none, some (.int f14), some (.int g20), some (.int (bI c23))] [.int (bI c35)] m4 153 by
    have hc39 : true = c35 → GX Γ LAY 0 0 [some (.ref (gad Γ 62)), some (.int d1), some (.int i2), some (.int j3), some (.long x5), none, some (.long x8), none, some (.int f14), some (.int g20), some (.int (bI c23))] [] m4 148 := by
      intro q
      subst q
      refine GX_iconst hC (bI true) dX10_doClash_148 rfl ?_
      refine GX_goto hC 153 dX10_doClash_149 (by decide) ?_
      exact hJ38
    have hc40 : false = c35 → GX Γ LAY 0 0 [some (.ref (gad Γ 62)), some (.int d1), some (.int i2), some (.int j3), some (.long x5), none, some (.long x8), none, some (.int f14), some (.int g20), some (.int (bI c23))] [] m4 152 := by
      intro q
      subst q
      refine GX_iconst hC (bI false) dX10_doClash_152 rfl ?_
      exact hJ38
    refine GX_iload hC dX10_doClash_107 rfl ?_
    refine GX_ifb_eq hC 152 dX10_doClash_109 (by decide) (fun q => ?_) (fun q => ?_)
    · skip
      have h41 := ifT q e36
      refine GX_lload hC dX10_doClash_112 rfl ?_
      refine GX_lload hC dX10_doClash_114 rfl ?_
      refine GX_lc_ne_N hC 141 dX10_doClash_116 dX10_doClash_117 (by decide) (fun q => ?_) (fun q => ?_)
      · skip
        have h42 := ifP q h41
        refine GX_iload hC dX10_doClash_120 rfl ?_
        refine GX_iload hC dX10_doClash_122 rfl ?_
        refine GX_icmp_eq_N hC 152 dX10_doClash_124 (by decide) (fun q => ?_) (fun q => ?_)
        · skip
          have h43 := ifP q h42
          refine GX_aload_n hC dX10_doClash_127 rfl ?_
          refine GX_iload hC dX10_doClash_128 rfl ?_
          refine GX_iload hC dX10_doClash_130 rfl ?_
          obtain ⟨b44, e45, h46⟩ := ob h43
          refine GX_callV_i (st := []) hC (C_M_bars e45) okX10_bars lkX10_119 ol_62 rfl rfl (Nat.le_of_ble_eq_true rfl) (Nat.le_of_ble_eq_true rfl) hk rfl (Nat.le_of_ble_eq_true rfl) dX10_doClash_132 ?_
          refine GX_ifb_eq hC 152 dX10_doClash_135 (by decide) (fun q => ?_) (fun q => ?_)
          · skip
            refine GX_goto hC 148 dX10_doClash_138 (by decide) ?_
            exact hc39 (cbT q h46)
          · skip
            exact hc40 (cbF q h46)
        · skip
          have h47 := ifN q h42
          exact hc40 (oi h47)
      · skip
        have h48 := ifN q h41
        refine GX_iload hC dX10_doClash_141 rfl ?_
        refine GX_iload hC dX10_doClash_143 rfl ?_
        refine GX_icmp_ne_N hC 152 dX10_doClash_145 (by decide) (fun q => ?_) (fun q => ?_)
        · skip
          exact hc39 (cdT q h48)
        · skip
          exact hc40 (cdF q h48)
    · skip
      have h49 := ifF q e36
      exact hc40 (oi h49)
  exact GX_zretR hC c35 hR dX10_doClash_153 (oi h37)
set_option maxRecDepth 100000 in
set_option maxHeartbeats 4000000 in
theorem C_M_ones {l : Launch} {bits1 : Int32} {μ0 : MI} {r0 : Int32}  (hf : M_ones bits1 = some r0) : Cn l yX10_ones cX10_ones 3 (some .int) 0 LAY (fun ad => [.int bits1]) μ0 (fun _ => some (.int r0)) μ0 := by
  refine Cn.of (fun ad => [some (.int bits1), none, none]) (by decide +kernel) (fun _ => rfl) (fun _ => Nat.le_of_ble_eq_true rfl) (fun Γ hl hC hR hk => ?_)
  subst hl
  replace hC : CX Γ cX10_ones RX10 LAY 0 3 := hC
  dsimp only [M_ones] at hf
  refine GX_iconst hC 0 dX10_ones_0 rfl ?_
  refine GX_istore_n hC [some (.int bits1), some (.int 0), none] dX10_ones_1 (by decide) rfl rfl ?_
  refine GX_iconst hC 0 dX10_ones_2 rfl ?_
  refine GX_istore_n hC [some (.int bits1), some (.int 0), some (.int 0)] dX10_ones_3 (by decide) rfl rfl ?_
  obtain ⟨o2, e3, h4⟩ := ob hf
  suffices hJ5 : ∀ (n8 : Int32), n8 = o2 → GX Γ LAY 0 0 [some (.int bits1), some (.int n8), none] [] μ0 24 by
    refine lp_walk (P := fun s => GX Γ LAY 0 0 [some (.int bits1), some (.int s.1), some (.int s.2)] [] μ0 4) (fun s x hx5 hI5 hO5 => ?_) _ _ e3
    obtain ⟨n6, k7⟩ := s
    show GX Γ LAY 0 0 [some (.int bits1), some (.int n6), some (.int k7)] [] μ0 4
    dsimp only [M_ones_s1] at hx5
    refine GX_iload_n hC dX10_ones_4 rfl ?_
    refine GX_bipush hC 8 dX10_ones_5 rfl ?_
    refine GX_icmp_ge_N hC 24 dX10_ones_7 (by decide) (fun q => ?_) (fun q => ?_)
    · skip
      have h9 := ifP q hx5
      refine GX_iload_n hC dX10_ones_10 rfl ?_
      refine GX_iload_n hC dX10_ones_11 rfl ?_
      refine GX_iload_n hC dX10_ones_12 rfl ?_
      refine GX_ishr hC dX10_ones_13 ?_
      refine GX_iconst hC 1 dX10_ones_14 rfl ?_
      refine GX_iand hC dX10_ones_15 ?_
      refine GX_iadd hC dX10_ones_16 ?_
      obtain ⟨n10, e11, h12⟩ := ob h9
      refine GX_nm (oi e11) ?_
      refine GX_istore_n hC [some (.int bits1), some (.int n10), some (.int k7)] dX10_ones_17 (by decide) rfl rfl ?_
      obtain ⟨i13, e14, h15⟩ := ob h12
      refine GX_iinc hC i13 [some (.int bits1), some (.int n10), some (.int i13)] dX10_ones_18 rfl (oi e14) (by decide) rfl rfl ?_
      refine GX_goto hC 4 dX10_ones_21 (by decide) ?_
      exact hI5 _ (oi h15).symm
    · skip
      have h16 := ifN q hx5
      exact GX.le (hJ5 _ (hO5 _ (oi h16).symm)) ⟨rfl, ⟨rfl, trivial⟩⟩
  intro n8 q17
  subst q17
  refine GX_iload_n hC dX10_ones_24 rfl ?_
  exact GX_iretR hC hR dX10_ones_25 (oi h4)
set_option maxRecDepth 100000 in
set_option maxHeartbeats 4000000 in
theorem C_M_deeds {l : Launch} {d1 : Int32} {what2 : Int32} {m3 : MI} {r0 : Int32} {mr : MI}  (hf : M_deeds d1 what2 m3 = some (r0, mr)) : Cn l yX10_deeds cX10_deeds 11 (some .int) 3 LAY (fun ad => .ref (ad 62) :: [.int d1, .int what2]) m3 (fun _ => some (.int r0)) mr := by
  refine Cn.of (fun ad => [some (.ref (ad 62)), some (.int d1), some (.int what2), none, none, none, none, none, none, none, none]) (by decide +kernel) (fun _ => rfl) (fun _ => Nat.le_of_ble_eq_true rfl) (fun Γ hl hC hR hk => ?_)
  subst hl
  replace hC : CX Γ cX10_deeds RX10 LAY 3 11 := hC
  dsimp only [M_deeds] at hf
  refine GX_aload_n hC dX10_deeds_0 rfl ?_
  refine GX_iconst hC 0 dX10_deeds_1 rfl ?_
  obtain ⟨m4, e5, h6⟩ := ob hf
  refine GX_stF hC e5 fkX10_99 ftX10_10 ol_62 rfl dX10_deeds_2 ?_
  obtain ⟨c7, e8, h9⟩ := ob h6
  have hc10 : true = c7 → GX Γ LAY 0 0 [some (.ref (gad Γ 62)), some (.int d1), some (.int what2), none, none, none, none, none, none, none, none] [] m4 23 := by
    intro q
    have h11 := ifT q.symm h9
    obtain ⟨x12, e13, h14⟩ := ob h11
    suffices hJ15 : GX Γ LAY 0 0 [some (.ref (gad Γ 62)), some (.int d1), some (.int what2), none, none, none, none, none, none, none, none] [.int x12] m4 42 by
      refine GX_iload_n hC dX10_deeds_23 rfl ?_
      refine GX_i2l hC dX10_deeds_24 ?_
      refine GX_lconst hC 0 dX10_deeds_25 rfl ?_
      refine GX_lconst hC 1 dX10_deeds_26 rfl ?_
      obtain ⟨b16, e17, h18⟩ := ob e13
      refine GX_callS_i (st := []) hC (C_M_in e17) okX10_in lkX10_106 rfl (Nat.le_of_ble_eq_true rfl) (Nat.le_of_ble_eq_true rfl) hk rfl (Nat.le_of_ble_eq_true rfl) dX10_deeds_27 ?_
      refine GX_ifb_ne hC 37 dX10_deeds_30 (by decide) (fun q => ?_) (fun q => ?_)
      · skip
        have h19 := ifT q h18
        refine GX_aload_n hC dX10_deeds_37 rfl ?_
        refine GX_iload_n hC dX10_deeds_38 rfl ?_
        obtain ⟨r20, e21, h22⟩ := ob h19
        refine GX_callV_i (st := []) hC (C_M_wrongBytes e21) okX10_wrongBytes lkX10_184 ol_62 rfl rfl (Nat.le_of_ble_eq_true rfl) (Nat.le_of_ble_eq_true rfl) hk rfl (Nat.le_of_ble_eq_true rfl) dX10_deeds_39 ?_
        exact GX_nm (oi h22) hJ15
      · skip
        have h23 := ifF q h18
        refine GX_iconst hC (-1) dX10_deeds_33 rfl ?_
        refine GX_goto hC 42 dX10_deeds_34 (by decide) ?_
        exact GX_nm (oi h23) hJ15
    exact GX_iretW hC hR dX10_deeds_42 (oi h14)
  have hc24 : false = c7 → GX Γ LAY 0 0 [some (.ref (gad Γ 62)), some (.int d1), some (.int what2), none, none, none, none, none, none, none, none] [] m4 43 := by
    intro q
    have h25 := ifF q.symm h9
    refine GX_aload_n hC dX10_deeds_43 rfl ?_
    refine GX_getR hC fkX10_89 ol_62 rfl dX10_deeds_44 ?_
    refine GX_iload_n hC dX10_deeds_47 rfl ?_
    obtain ⟨x26, e27, h28⟩ := ob h25
    refine GX_ldA hC e27 al_89 dX10_deeds_48 ?_
    refine GX_iconst hC 3 dX10_deeds_49 rfl ?_
    refine GX_idiv hC dX10_deeds_50 (by decide) ?_
    obtain ⟨n29, e30, h31⟩ := ob h28
    refine GX_nm (oi e30) ?_
    refine GX_istore_n hC [some (.ref (gad Γ 62)), some (.int d1), some (.int what2), some (.int n29), none, none, none, none, none, none, none] dX10_deeds_51 (by decide) rfl rfl ?_
    obtain ⟨c32, e33, h34⟩ := ob h31
    suffices hJ35 : GX Γ LAY 0 0 [some (.ref (gad Γ 62)), some (.int d1), some (.int what2), some (.int n29), none, none, none, none, none, none, none] [.int (bI c32)] m4 74 by
      have hc36 : true = c32 → GX Γ LAY 0 0 [some (.ref (gad Γ 62)), some (.int d1), some (.int what2), some (.int n29), none, none, none, none, none, none, none] [] m4 69 := by
        intro q
        subst q
        refine GX_iconst hC (bI true) dX10_deeds_69 rfl ?_
        refine GX_goto hC 74 dX10_deeds_70 (by decide) ?_
        exact hJ35
      have hc37 : false = c32 → GX Γ LAY 0 0 [some (.ref (gad Γ 62)), some (.int d1), some (.int what2), some (.int n29), none, none, none, none, none, none, none] [] m4 73 := by
        intro q
        subst q
        refine GX_iconst hC (bI false) dX10_deeds_73 rfl ?_
        exact hJ35
      refine GX_aload_n hC dX10_deeds_52 rfl ?_
      refine GX_getR hC fkX10_89 ol_62 rfl dX10_deeds_53 ?_
      refine GX_iload_n hC dX10_deeds_56 rfl ?_
      obtain ⟨x38, e39, h40⟩ := ob e33
      refine GX_ldA hC e39 al_89 dX10_deeds_57 ?_
      refine GX_iconst hC 3 dX10_deeds_58 rfl ?_
      refine GX_irem hC dX10_deeds_59 (by decide) ?_
      refine GX_if_ne_N hC 73 dX10_deeds_60 (by decide) (fun q => ?_) (fun q => ?_)
      · skip
        have h41 := ifP q h40
        refine GX_iload_n hC dX10_deeds_63 rfl ?_
        refine GX_bipush hC 8 dX10_deeds_64 rfl ?_
        refine GX_icmp_gt_N hC 73 dX10_deeds_66 (by decide) (fun q => ?_) (fun q => ?_)
        · skip
          exact hc36 (cdT q h41)
        · skip
          exact hc37 (cdF q h41)
      · skip
        have h42 := ifN q h40
        exact hc37 (oi h42)
    refine GX_istore hC [some (.ref (gad Γ 62)), some (.int d1), some (.int what2), some (.int n29), some (.int (bI c32)), none, none, none, none, none, none] dX10_deeds_74 (by decide) rfl rfl ?_
    refine GX_iconst hC 0 dX10_deeds_76 rfl ?_
    refine GX_istore hC [some (.ref (gad Γ 62)), some (.int d1), some (.int what2), some (.int n29), some (.int (bI c32)), some (.int 0), none, none, none, none, none] dX10_deeds_77 (by decide) rfl rfl ?_
    obtain ⟨o43, e44, h45⟩ := ob h34
    suffices hJ46 : ∀ (good49 : Bool), good49 = o43 → GX Γ LAY 0 0 [some (.ref (gad Γ 62)), some (.int d1), some (.int what2), some (.int n29), some (.int (bI good49)), none, none, none, none, none, none] [] m4 177 by
      refine lp_walk (P := fun s => GX Γ LAY 0 0 [some (.ref (gad Γ 62)), some (.int d1), some (.int what2), some (.int n29), some (.int (bI s.1)), some (.int s.2), none, none, none, none, none] [] m4 79) (fun s x hx46 hI46 hO46 => ?_) _ _ e44
      obtain ⟨good47, i48⟩ := s
      show GX Γ LAY 0 0 [some (.ref (gad Γ 62)), some (.int d1), some (.int what2), some (.int n29), some (.int (bI good47)), some (.int i48), none, none, none, none, none] [] m4 79
      dsimp only [M_deeds_s1] at hx46
      obtain ⟨c50, e51, h52⟩ := ob hx46
      have hc53 : true = c50 → GX Γ LAY 0 0 [some (.ref (gad Γ 62)), some (.int d1), some (.int what2), some (.int n29), some (.int (bI good47)), some (.int i48), none, none, none, none, none] [] m4 90 := by
        intro q
        have h54 := ifT q.symm h52
        refine GX_bipush hC 100 dX10_deeds_90 rfl ?_
        refine GX_iload_n hC dX10_deeds_92 rfl ?_
        refine GX_imul hC dX10_deeds_93 ?_
        refine GX_iconst hC 3 dX10_deeds_94 rfl ?_
        refine GX_iload hC dX10_deeds_95 rfl ?_
        refine GX_imul hC dX10_deeds_97 ?_
        refine GX_iadd hC dX10_deeds_98 ?_
        obtain ⟨k55, e56, h57⟩ := ob h54
        refine GX_nm (oi e56) ?_
        refine GX_istore hC [some (.ref (gad Γ 62)), some (.int d1), some (.int what2), some (.int n29), some (.int (bI good47)), some (.int i48), some (.int k55), none, none, none, none] dX10_deeds_99 (by decide) rfl rfl ?_
        obtain ⟨c58, e59, h60⟩ := ob h57
        suffices hJ61 : GX Γ LAY 0 0 [some (.ref (gad Γ 62)), some (.int d1), some (.int what2), some (.int n29), some (.int (bI good47)), some (.int i48), some (.int k55), none, none, none, none] [.int (bI c58)] m4 169 by
          have hc62 : true = c58 → GX Γ LAY 0 0 [some (.ref (gad Γ 62)), some (.int d1), some (.int what2), some (.int n29), some (.int (bI good47)), some (.int i48), some (.int k55), none, none, none, none] [] m4 164 := by
            intro q
            subst q
            refine GX_iconst hC (bI true) dX10_deeds_164 rfl ?_
            refine GX_goto hC 169 dX10_deeds_165 (by decide) ?_
            exact hJ61
          have hc63 : false = c58 → GX Γ LAY 0 0 [some (.ref (gad Γ 62)), some (.int d1), some (.int what2), some (.int n29), some (.int (bI good47)), some (.int i48), some (.int k55), none, none, none, none] [] m4 168 := by
            intro q
            subst q
            refine GX_iconst hC (bI false) dX10_deeds_168 rfl ?_
            exact hJ61
          refine GX_aload_n hC dX10_deeds_101 rfl ?_
          refine GX_getR hC fkX10_92 ol_62 rfl dX10_deeds_102 ?_
          refine GX_iload hC dX10_deeds_105 rfl ?_
          obtain ⟨x64, e65, h66⟩ := ob e59
          refine GX_ldL hC e65 al_90 dX10_deeds_107 ?_
          refine GX_lconst hC 0 dX10_deeds_108 rfl ?_
          refine GX_aload_n hC dX10_deeds_109 rfl ?_
          refine GX_getI hC fkX10_110 ol_62 rfl dX10_deeds_110 ?_
          refine GX_iconst hC 1 dX10_deeds_113 rfl ?_
          refine GX_isub hC dX10_deeds_114 ?_
          refine GX_i2l hC dX10_deeds_115 ?_
          obtain ⟨b67, e68, h69⟩ := ob h66
          refine GX_callS_i (st := []) hC (C_M_in e68) okX10_in lkX10_106 rfl (Nat.le_of_ble_eq_true rfl) (Nat.le_of_ble_eq_true rfl) hk rfl (Nat.le_of_ble_eq_true rfl) dX10_deeds_116 ?_
          refine GX_ifb_eq hC 168 dX10_deeds_119 (by decide) (fun q => ?_) (fun q => ?_)
          · skip
            have h70 := ifT q h69
            refine GX_aload_n hC dX10_deeds_122 rfl ?_
            refine GX_getR hC fkX10_92 ol_62 rfl dX10_deeds_123 ?_
            refine GX_iload hC dX10_deeds_126 rfl ?_
            refine GX_iconst hC 1 dX10_deeds_128 rfl ?_
            refine GX_iadd hC dX10_deeds_129 ?_
            obtain ⟨x71, e72, h73⟩ := ob h70
            refine GX_ldL hC e72 al_90 dX10_deeds_130 ?_
            refine GX_lconst hC 0 dX10_deeds_131 rfl ?_
            refine GX_aload_n hC dX10_deeds_132 rfl ?_
            refine GX_getI hC fkX10_103 ol_62 rfl dX10_deeds_133 ?_
            refine GX_iconst hC 1 dX10_deeds_136 rfl ?_
            refine GX_isub hC dX10_deeds_137 ?_
            refine GX_i2l hC dX10_deeds_138 ?_
            obtain ⟨b74, e75, h76⟩ := ob h73
            refine GX_callS_i (st := []) hC (C_M_in e75) okX10_in lkX10_106 rfl (Nat.le_of_ble_eq_true rfl) (Nat.le_of_ble_eq_true rfl) hk rfl (Nat.le_of_ble_eq_true rfl) dX10_deeds_139 ?_
            refine GX_ifb_eq hC 168 dX10_deeds_142 (by decide) (fun q => ?_) (fun q => ?_)
            · skip
              have h77 := ifT q h76
              refine GX_aload_n hC dX10_deeds_145 rfl ?_
              refine GX_getR hC fkX10_92 ol_62 rfl dX10_deeds_146 ?_
              refine GX_iload hC dX10_deeds_149 rfl ?_
              refine GX_iconst hC 2 dX10_deeds_151 rfl ?_
              refine GX_iadd hC dX10_deeds_152 ?_
              obtain ⟨x78, e79, h80⟩ := ob h77
              refine GX_ldL hC e79 al_90 dX10_deeds_153 ?_
              refine GX_lconst hC 0 dX10_deeds_154 rfl ?_
              refine GX_ldc2 hC 9 kcX10_255 dX10_deeds_155 ?_
              obtain ⟨b81, e82, h83⟩ := ob h80
              refine GX_callS_i (st := []) hC (C_M_in e82) okX10_in lkX10_106 rfl (Nat.le_of_ble_eq_true rfl) (Nat.le_of_ble_eq_true rfl) hk rfl (Nat.le_of_ble_eq_true rfl) dX10_deeds_158 ?_
              refine GX_ifb_eq hC 168 dX10_deeds_161 (by decide) (fun q => ?_) (fun q => ?_)
              · skip
                exact hc62 (cbT q h83)
              · skip
                exact hc63 (cbF q h83)
            · skip
              have h84 := ifF q h76
              exact hc63 (oi h84)
          · skip
            have h85 := ifF q h69
            exact hc63 (oi h85)
        refine GX_istore hC [some (.ref (gad Γ 62)), some (.int d1), some (.int what2), some (.int n29), some (.int (bI c58)), some (.int i48), some (.int k55), none, none, none, none] dX10_deeds_169 (by decide) rfl rfl ?_
        obtain ⟨i86, e87, h88⟩ := ob h60
        refine GX_iinc hC i86 [some (.ref (gad Γ 62)), some (.int d1), some (.int what2), some (.int n29), some (.int (bI c58)), some (.int i86), some (.int k55), none, none, none, none] dX10_deeds_171 rfl (oi e87) (by decide) rfl rfl ?_
        refine GX_goto hC 79 dX10_deeds_174 (by decide) ?_
        exact GX.le (hI46 _ (oi h88).symm) ⟨rfl, ⟨rfl, ⟨rfl, ⟨rfl, ⟨rfl, ⟨rfl, trivial⟩⟩⟩⟩⟩⟩
      have hc89 : false = c50 → GX Γ LAY 0 0 [some (.ref (gad Γ 62)), some (.int d1), some (.int what2), some (.int n29), some (.int (bI good47)), some (.int i48), none, none, none, none, none] [] m4 177 := by
        intro q
        have h90 := ifF q.symm h52
        exact GX.le (hJ46 _ (hO46 _ (oi h90).symm)) ⟨rfl, ⟨rfl, ⟨rfl, ⟨rfl, ⟨rfl, trivial⟩⟩⟩⟩⟩
      refine GX_iload hC dX10_deeds_79 rfl ?_
      refine GX_iload_n hC dX10_deeds_81 rfl ?_
      refine GX_icmp_ge_N hC 177 dX10_deeds_82 (by decide) (fun q => ?_) (fun q => ?_)
      · skip
        have h91 := ifP q e51
        refine GX_iload hC dX10_deeds_85 rfl ?_
        refine GX_ifb_eq hC 177 dX10_deeds_87 (by decide) (fun q => ?_) (fun q => ?_)
        · skip
          exact hc53 (cbT q h91)
        · skip
          exact hc89 (cbF q h91)
      · skip
        have h92 := ifN q e51
        exact hc89 (oi h92)
    intro good49 q93
    subst q93
    refine GX_iload hC dX10_deeds_177 rfl ?_
    refine GX_ifb_ne hC 185 dX10_deeds_179 (by decide) (fun q => ?_) (fun q => ?_)
    · skip
      have h94 := ifT q h45
      refine GX_iconst hC 1 dX10_deeds_185 rfl ?_
      refine GX_iload_n hC dX10_deeds_186 rfl ?_
      refine GX_ishl hC dX10_deeds_187 ?_
      refine GX_iconst hC 1 dX10_deeds_188 rfl ?_
      refine GX_isub hC dX10_deeds_189 ?_
      obtain ⟨best95, e96, h97⟩ := ob h94
      refine GX_nm (oi e96) ?_
      refine GX_istore hC [some (.ref (gad Γ 62)), some (.int d1), some (.int what2), some (.int n29), some (.int (bI good49)), some (.int best95), none, none, none, none, none] dX10_deeds_190 (by decide) rfl rfl ?_
      refine GX_iconst hC 0 dX10_deeds_192 rfl ?_
      refine GX_istore hC [some (.ref (gad Γ 62)), some (.int d1), some (.int what2), some (.int n29), some (.int (bI good49)), some (.int best95), some (.int 0), none, none, none, none] dX10_deeds_193 (by decide) rfl rfl ?_
      obtain ⟨o98, e99, h100⟩ := ob h97
      suffices hJ101 : ∀ (best104 : Int32), best104 = o98 → GX Γ LAY 0 0 [some (.ref (gad Γ 62)), some (.int d1), some (.int what2), some (.int n29), some (.int (bI good49)), some (.int best104), none, none, none, none, none] [] m4 335 by
        refine lp_walk (P := fun s => GX Γ LAY 0 0 [some (.ref (gad Γ 62)), some (.int d1), some (.int what2), some (.int n29), some (.int (bI good49)), some (.int s.1), some (.int s.2), none, none, none, none] [] m4 195) (fun s x hx101 hI101 hO101 => ?_) _ _ e99
        obtain ⟨best102, set103⟩ := s
        show GX Γ LAY 0 0 [some (.ref (gad Γ 62)), some (.int d1), some (.int what2), some (.int n29), some (.int (bI good49)), some (.int best102), some (.int set103), none, none, none, none] [] m4 195
        dsimp only [M_deeds_s2] at hx101
        refine GX_iload hC dX10_deeds_195 rfl ?_
        refine GX_iconst hC 1 dX10_deeds_197 rfl ?_
        refine GX_iload_n hC dX10_deeds_198 rfl ?_
        refine GX_ishl hC dX10_deeds_199 ?_
        refine GX_icmp_ge_N hC 335 dX10_deeds_200 (by decide) (fun q => ?_) (fun q => ?_)
        · skip
          have h105 := ifP q hx101
          obtain ⟨c106, e107, h108⟩ := ob h105
          suffices hJ109 : GX Γ LAY 0 0 [some (.ref (gad Γ 62)), some (.int d1), some (.int what2), some (.int n29), some (.int (bI good49)), some (.int best102), some (.int set103), none, none, none, none] [.int (bI c106)] m4 221 by
            have hc110 : true = c106 → GX Γ LAY 0 0 [some (.ref (gad Γ 62)), some (.int d1), some (.int what2), some (.int n29), some (.int (bI good49)), some (.int best102), some (.int set103), none, none, none, none] [] m4 216 := by
              intro q
              subst q
              refine GX_iconst hC (bI true) dX10_deeds_216 rfl ?_
              refine GX_goto hC 221 dX10_deeds_217 (by decide) ?_
              exact hJ109
            have hc111 : false = c106 → GX Γ LAY 0 0 [some (.ref (gad Γ 62)), some (.int d1), some (.int what2), some (.int n29), some (.int (bI good49)), some (.int best102), some (.int set103), none, none, none, none] [] m4 220 := by
              intro q
              subst q
              refine GX_iconst hC (bI false) dX10_deeds_220 rfl ?_
              exact hJ109
            refine GX_iload hC dX10_deeds_203 rfl ?_
            obtain ⟨r112, e113, h114⟩ := ob e107
            refine GX_callS_i (st := []) hC (C_M_ones e113) okX10_ones lkX10_302 rfl (Nat.le_of_ble_eq_true rfl) (Nat.le_of_ble_eq_true rfl) hk rfl (Nat.le_of_ble_eq_true rfl) dX10_deeds_205 ?_
            refine GX_iload hC dX10_deeds_208 rfl ?_
            obtain ⟨r115, e116, h117⟩ := ob h114
            refine GX_callS_i (st := [.int r112]) hC (C_M_ones e116) okX10_ones lkX10_302 rfl (Nat.le_of_ble_eq_true rfl) (Nat.le_of_ble_eq_true rfl) hk rfl (Nat.le_of_ble_eq_true rfl) dX10_deeds_210 ?_
            refine GX_icmp_ge_N hC 220 dX10_deeds_213 (by decide) (fun q => ?_) (fun q => ?_)
            · skip
              exact hc110 (cdT q h117)
            · skip
              exact hc111 (cdF q h117)
          refine GX_istore hC [some (.ref (gad Γ 62)), some (.int d1), some (.int what2), some (.int n29), some (.int (bI good49)), some (.int best102), some (.int set103), some (.int (bI c106)), none, none, none] dX10_deeds_221 (by decide) rfl rfl ?_
          refine GX_iconst hC 0 dX10_deeds_223 rfl ?_
          refine GX_istore hC [some (.ref (gad Γ 62)), some (.int d1), some (.int what2), some (.int n29), some (.int (bI good49)), some (.int best102), some (.int set103), some (.int (bI c106)), some (.int 0), none, none] dX10_deeds_224 (by decide) rfl rfl ?_
          obtain ⟨o118, e119, h120⟩ := ob h108
          suffices hJ121 : ∀ (fine124 : Bool), fine124 = o118 → GX Γ LAY 0 0 [some (.ref (gad Γ 62)), some (.int d1), some (.int what2), some (.int n29), some (.int (bI good49)), some (.int best102), some (.int set103), some (.int (bI fine124)), none, none, none] [] m4 315 by
            refine lp_walk (P := fun s => GX Γ LAY 0 0 [some (.ref (gad Γ 62)), some (.int d1), some (.int what2), some (.int n29), some (.int (bI good49)), some (.int best102), some (.int set103), some (.int (bI s.1)), some (.int s.2), none, none] [] m4 226) (fun s x hx121 hI121 hO121 => ?_) _ _ e119
            obtain ⟨fine122, i123⟩ := s
            show GX Γ LAY 0 0 [some (.ref (gad Γ 62)), some (.int d1), some (.int what2), some (.int n29), some (.int (bI good49)), some (.int best102), some (.int set103), some (.int (bI fine122)), some (.int i123), none, none] [] m4 226
            dsimp only [M_deeds_s3] at hx121
            obtain ⟨c125, e126, h127⟩ := ob hx121
            have hc128 : true = c125 → GX Γ LAY 0 0 [some (.ref (gad Γ 62)), some (.int d1), some (.int what2), some (.int n29), some (.int (bI good49)), some (.int best102), some (.int set103), some (.int (bI fine122)), some (.int i123), none, none] [] m4 237 := by
              intro q
              have h129 := ifT q.symm h127
              refine GX_iconst hC 0 dX10_deeds_237 rfl ?_
              refine GX_istore hC [some (.ref (gad Γ 62)), some (.int d1), some (.int what2), some (.int n29), some (.int (bI good49)), some (.int best102), some (.int set103), some (.int (bI fine122)), some (.int i123), some (.int 0), none] dX10_deeds_238 (by decide) rfl rfl ?_
              obtain ⟨o130, e131, h132⟩ := ob h129
              suffices hJ133 : ∀ (fine136 : Bool), fine136 = o130 → GX Γ LAY 0 0 [some (.ref (gad Γ 62)), some (.int d1), some (.int what2), some (.int n29), some (.int (bI good49)), some (.int best102), some (.int set103), some (.int (bI fine136)), some (.int i123), none, none] [] m4 309 by
                refine lp_walk (P := fun s => GX Γ LAY 0 0 [some (.ref (gad Γ 62)), some (.int d1), some (.int what2), some (.int n29), some (.int (bI good49)), some (.int best102), some (.int set103), some (.int (bI s.1)), some (.int i123), some (.int s.2), none] [] m4 240) (fun s x hx133 hI133 hO133 => ?_) _ _ e131
                obtain ⟨fine134, j135⟩ := s
                show GX Γ LAY 0 0 [some (.ref (gad Γ 62)), some (.int d1), some (.int what2), some (.int n29), some (.int (bI good49)), some (.int best102), some (.int set103), some (.int (bI fine134)), some (.int i123), some (.int j135), none] [] m4 240
                dsimp only [M_deeds_s4] at hx133
                refine GX_iload hC dX10_deeds_240 rfl ?_
                refine GX_iload hC dX10_deeds_242 rfl ?_
                refine GX_icmp_ge_N hC 309 dX10_deeds_244 (by decide) (fun q => ?_) (fun q => ?_)
                · skip
                  have h137 := ifP q hx133
                  obtain ⟨c138, e139, h140⟩ := ob h137
                  suffices hJ141 : GX Γ LAY 0 0 [some (.ref (gad Γ 62)), some (.int d1), some (.int what2), some (.int n29), some (.int (bI good49)), some (.int best102), some (.int set103), some (.int (bI fine134)), some (.int i123), some (.int j135), none] [.int (bI c138)] m4 272 by
                    have hc142 : true = c138 → GX Γ LAY 0 0 [some (.ref (gad Γ 62)), some (.int d1), some (.int what2), some (.int n29), some (.int (bI good49)), some (.int best102), some (.int set103), some (.int (bI fine134)), some (.int i123), some (.int j135), none] [] m4 267 := by
                      intro q
                      subst q
                      refine GX_iconst hC (bI true) dX10_deeds_267 rfl ?_
                      refine GX_goto hC 272 dX10_deeds_268 (by decide) ?_
                      exact hJ141
                    have hc143 : false = c138 → GX Γ LAY 0 0 [some (.ref (gad Γ 62)), some (.int d1), some (.int what2), some (.int n29), some (.int (bI good49)), some (.int best102), some (.int set103), some (.int (bI fine134)), some (.int i123), some (.int j135), none] [] m4 271 := by
                      intro q
                      subst q
                      refine GX_iconst hC (bI false) dX10_deeds_271 rfl ?_
                      exact hJ141
                    refine GX_iload hC dX10_deeds_247 rfl ?_
                    refine GX_iload hC dX10_deeds_249 rfl ?_
                    refine GX_ishr hC dX10_deeds_251 ?_
                    refine GX_iconst hC 1 dX10_deeds_252 rfl ?_
                    refine GX_iand hC dX10_deeds_253 ?_
                    refine GX_if_ne_N hC 271 dX10_deeds_254 (by decide) (fun q => ?_) (fun q => ?_)
                    · skip
                      have h144 := ifP q e139
                      refine GX_iload hC dX10_deeds_257 rfl ?_
                      refine GX_iload hC dX10_deeds_259 rfl ?_
                      refine GX_ishr hC dX10_deeds_261 ?_
                      refine GX_iconst hC 1 dX10_deeds_262 rfl ?_
                      refine GX_iand hC dX10_deeds_263 ?_
                      refine GX_if_ne_N hC 271 dX10_deeds_264 (by decide) (fun q => ?_) (fun q => ?_)
                      · skip
                        exact hc142 (cdT q h144)
                      · skip
                        exact hc143 (cdF q h144)
                    · skip
                      have h145 := ifN q e139
                      exact hc143 (oi h145)
                  refine GX_istore hC [some (.ref (gad Γ 62)), some (.int d1), some (.int what2), some (.int n29), some (.int (bI good49)), some (.int best102), some (.int set103), some (.int (bI fine134)), some (.int i123), some (.int j135), some (.int (bI c138))] dX10_deeds_272 (by decide) rfl rfl ?_
                  obtain ⟨c146, e147, h148⟩ := ob h140
                  suffices hJ149 : GX Γ LAY 0 0 [some (.ref (gad Γ 62)), some (.int d1), some (.int what2), some (.int n29), some (.int (bI good49)), some (.int best102), some (.int set103), some (.int (bI fine134)), some (.int i123), some (.int j135), some (.int (bI c138))] [.int (bI c146)] m4 301 by
                    have hc150 : true = c146 → GX Γ LAY 0 0 [some (.ref (gad Γ 62)), some (.int d1), some (.int what2), some (.int n29), some (.int (bI good49)), some (.int best102), some (.int set103), some (.int (bI fine134)), some (.int i123), some (.int j135), some (.int (bI c138))] [] m4 296 := by
                      intro q
                      subst q
                      refine GX_iconst hC (bI true) dX10_deeds_296 rfl ?_
                      refine GX_goto hC 301 dX10_deeds_297 (by decide) ?_
                      exact hJ149
                    have hc151 : false = c146 → GX Γ LAY 0 0 [some (.ref (gad Γ 62)), some (.int d1), some (.int what2), some (.int n29), some (.int (bI good49)), some (.int best102), some (.int set103), some (.int (bI fine134)), some (.int i123), some (.int j135), some (.int (bI c138))] [] m4 300 := by
                      intro q
                      subst q
                      refine GX_iconst hC (bI false) dX10_deeds_300 rfl ?_
                      exact hJ149
                    refine GX_iload hC dX10_deeds_274 rfl ?_
                    refine GX_ifb_eq hC 300 dX10_deeds_276 (by decide) (fun q => ?_) (fun q => ?_)
                    · skip
                      have h152 := ifT q e147
                      refine GX_iload hC dX10_deeds_279 rfl ?_
                      refine GX_ifb_eq hC 296 dX10_deeds_281 (by decide) (fun q => ?_) (fun q => ?_)
                      · skip
                        have h153 := ifT q h152
                        refine GX_aload_n hC dX10_deeds_284 rfl ?_
                        refine GX_iload_n hC dX10_deeds_285 rfl ?_
                        refine GX_iload hC dX10_deeds_286 rfl ?_
                        refine GX_iload hC dX10_deeds_288 rfl ?_
                        obtain ⟨b154, e155, h156⟩ := ob h153
                        refine GX_callV_i (st := []) hC (C_M_doClash e155) okX10_doClash lkX10_305 ol_62 rfl rfl (Nat.le_of_ble_eq_true rfl) (Nat.le_of_ble_eq_true rfl) hk rfl (Nat.le_of_ble_eq_true rfl) dX10_deeds_290 ?_
                        refine GX_ifb_ne hC 300 dX10_deeds_293 (by decide) (fun q => ?_) (fun q => ?_)
                        · skip
                          exact hc151 (cbnT q h156)
                        · skip
                          exact hc150 (cbnF q h156)
                      · skip
                        have h157 := ifF q h152
                        exact hc150 (oi h157)
                    · skip
                      have h158 := ifF q e147
                      exact hc151 (oi h158)
                  refine GX_istore hC [some (.ref (gad Γ 62)), some (.int d1), some (.int what2), some (.int n29), some (.int (bI good49)), some (.int best102), some (.int set103), some (.int (bI c146)), some (.int i123), some (.int j135), some (.int (bI c138))] dX10_deeds_301 (by decide) rfl rfl ?_
                  obtain ⟨i159, e160, h161⟩ := ob h148
                  refine GX_iinc hC i159 [some (.ref (gad Γ 62)), some (.int d1), some (.int what2), some (.int n29), some (.int (bI good49)), some (.int best102), some (.int set103), some (.int (bI c146)), some (.int i123), some (.int i159), some (.int (bI c138))] dX10_deeds_303 rfl (oi e160) (by decide) rfl rfl ?_
                  refine GX_goto hC 240 dX10_deeds_306 (by decide) ?_
                  exact GX.le (hI133 _ (oi h161).symm) ⟨rfl, ⟨rfl, ⟨rfl, ⟨rfl, ⟨rfl, ⟨rfl, ⟨rfl, ⟨rfl, ⟨rfl, ⟨rfl, trivial⟩⟩⟩⟩⟩⟩⟩⟩⟩⟩
                · skip
                  have h162 := ifN q hx133
                  exact GX.le (hJ133 _ (hO133 _ (oi h162).symm)) ⟨rfl, ⟨rfl, ⟨rfl, ⟨rfl, ⟨rfl, ⟨rfl, ⟨rfl, ⟨rfl, ⟨rfl, trivial⟩⟩⟩⟩⟩⟩⟩⟩⟩
              intro fine136 q163
              subst q163
              obtain ⟨i164, e165, h166⟩ := ob h132
              refine GX_iinc hC i164 [some (.ref (gad Γ 62)), some (.int d1), some (.int what2), some (.int n29), some (.int (bI good49)), some (.int best102), some (.int set103), some (.int (bI fine136)), some (.int i164), none, none] dX10_deeds_309 rfl (oi e165) (by decide) rfl rfl ?_
              refine GX_goto hC 226 dX10_deeds_312 (by decide) ?_
              exact hI121 _ (oi h166).symm
            have hc167 : false = c125 → GX Γ LAY 0 0 [some (.ref (gad Γ 62)), some (.int d1), some (.int what2), some (.int n29), some (.int (bI good49)), some (.int best102), some (.int set103), some (.int (bI fine122)), some (.int i123), none, none] [] m4 315 := by
              intro q
              have h168 := ifF q.symm h127
              exact GX.le (hJ121 _ (hO121 _ (oi h168).symm)) ⟨rfl, ⟨rfl, ⟨rfl, ⟨rfl, ⟨rfl, ⟨rfl, ⟨rfl, ⟨rfl, trivial⟩⟩⟩⟩⟩⟩⟩⟩
            refine GX_iload hC dX10_deeds_226 rfl ?_
            refine GX_iload_n hC dX10_deeds_228 rfl ?_
            refine GX_icmp_ge_N hC 315 dX10_deeds_229 (by decide) (fun q => ?_) (fun q => ?_)
            · skip
              have h169 := ifP q e126
              refine GX_iload hC dX10_deeds_232 rfl ?_
              refine GX_ifb_eq hC 315 dX10_deeds_234 (by decide) (fun q => ?_) (fun q => ?_)
              · skip
                exact hc128 (cbT q h169)
              · skip
                exact hc167 (cbF q h169)
            · skip
              have h170 := ifN q e126
              exact hc167 (oi h170)
          intro fine124 q171
          subst q171
          obtain ⟨x172, e173, h174⟩ := ob h120
          suffices hJ175 : GX Γ LAY 0 0 [some (.ref (gad Γ 62)), some (.int d1), some (.int what2), some (.int n29), some (.int (bI good49)), some (.int best102), some (.int set103), some (.int (bI fine124)), none, none, none] [.int x172] m4 327 by
            refine GX_iload hC dX10_deeds_315 rfl ?_
            refine GX_ifb_eq hC 325 dX10_deeds_317 (by decide) (fun q => ?_) (fun q => ?_)
            · skip
              have h176 := ifT q e173
              refine GX_iload hC dX10_deeds_320 rfl ?_
              refine GX_goto hC 327 dX10_deeds_322 (by decide) ?_
              exact GX_nm (oi h176) hJ175
            · skip
              have h177 := ifF q e173
              refine GX_iload hC dX10_deeds_325 rfl ?_
              exact GX_nm (oi h177) hJ175
          refine GX_istore hC [some (.ref (gad Γ 62)), some (.int d1), some (.int what2), some (.int n29), some (.int (bI good49)), some (.int x172), some (.int set103), some (.int (bI fine124)), none, none, none] dX10_deeds_327 (by decide) rfl rfl ?_
          obtain ⟨i178, e179, h180⟩ := ob h174
          refine GX_iinc hC i178 [some (.ref (gad Γ 62)), some (.int d1), some (.int what2), some (.int n29), some (.int (bI good49)), some (.int x172), some (.int i178), some (.int (bI fine124)), none, none, none] dX10_deeds_329 rfl (oi e179) (by decide) rfl rfl ?_
          refine GX_goto hC 195 dX10_deeds_332 (by decide) ?_
          exact GX.le (hI101 _ (oi h180).symm) ⟨rfl, ⟨rfl, ⟨rfl, ⟨rfl, ⟨rfl, ⟨rfl, ⟨rfl, trivial⟩⟩⟩⟩⟩⟩⟩
        · skip
          have h181 := ifN q hx101
          exact GX.le (hJ101 _ (hO101 _ (oi h181).symm)) ⟨rfl, ⟨rfl, ⟨rfl, ⟨rfl, ⟨rfl, ⟨rfl, trivial⟩⟩⟩⟩⟩⟩
      intro best104 q182
      subst q182
      obtain ⟨x183, e184, h185⟩ := ob h100
      suffices hJ186 : GX Γ LAY 0 0 [some (.ref (gad Γ 62)), some (.int d1), some (.int what2), some (.int n29), some (.int (bI good49)), some (.int best104), none, none, none, none, none] [.int x183] m4 349 by
        refine GX_iload_n hC dX10_deeds_335 rfl ?_
        refine GX_if_ne_N hC 344 dX10_deeds_336 (by decide) (fun q => ?_) (fun q => ?_)
        · skip
          have h187 := ifP q e184
          refine GX_iload hC dX10_deeds_339 rfl ?_
          refine GX_goto hC 349 dX10_deeds_341 (by decide) ?_
          exact GX_nm (oi h187) hJ186
        · skip
          have h188 := ifN q e184
          refine GX_iload hC dX10_deeds_344 rfl ?_
          obtain ⟨r189, e190, h191⟩ := ob h188
          refine GX_callS_i (st := []) hC (C_M_ones e190) okX10_ones lkX10_302 rfl (Nat.le_of_ble_eq_true rfl) (Nat.le_of_ble_eq_true rfl) hk rfl (Nat.le_of_ble_eq_true rfl) dX10_deeds_346 ?_
          exact GX_nm (oi h191) hJ186
      exact GX_iretW hC hR dX10_deeds_349 (oi h185)
    · skip
      have h192 := ifF q h45
      refine GX_bipush hC (-13) dX10_deeds_182 rfl ?_
      exact GX_iretW hC hR dX10_deeds_184 (oi h192)
  refine GX_iload_n hC dX10_deeds_5 rfl ?_
  refine GX_i2l hC dX10_deeds_6 ?_
  refine GX_lconst hC 0 dX10_deeds_7 rfl ?_
  refine GX_lconst hC 1 dX10_deeds_8 rfl ?_
  obtain ⟨b193, e194, h195⟩ := ob e8
  refine GX_callS_i (st := []) hC (C_M_in e194) okX10_in lkX10_106 rfl (Nat.le_of_ble_eq_true rfl) (Nat.le_of_ble_eq_true rfl) hk rfl (Nat.le_of_ble_eq_true rfl) dX10_deeds_9 ?_
  refine GX_ifb_eq hC 23 dX10_deeds_12 (by decide) (fun q => ?_) (fun q => ?_)
  · skip
    have h196 := ifT q h195
    refine GX_aload_n hC dX10_deeds_15 rfl ?_
    refine GX_iload_n hC dX10_deeds_16 rfl ?_
    obtain ⟨r197, e198, h199⟩ := ob h196
    refine GX_callV_i (st := []) hC (C_M_wrongBytes e198) okX10_wrongBytes lkX10_184 ol_62 rfl rfl (Nat.le_of_ble_eq_true rfl) (Nat.le_of_ble_eq_true rfl) hk rfl (Nat.le_of_ble_eq_true rfl) dX10_deeds_17 ?_
    refine GX_if_ge_N hC 43 dX10_deeds_20 (by decide) (fun q => ?_) (fun q => ?_)
    · skip
      exact hc10 (cdT q h199)
    · skip
      exact hc24 (cdF q h199)
  · skip
    have h200 := ifF q h195
    exact hc10 (oi h200)
