set_option maxRecDepth 100000 in
set_option maxHeartbeats 4000000 in
theorem C_Sharing_ownerFound {l : Launch} {f1 : Int32} {m2 : MI} {r0 : Int32}  (hf : Sharing_ownerFound f1 m2 = some r0) : Cn l yX7_ownerFound cX7_ownerFound 2 (some .int) 0 LAY (fun ad => .ref (ad 24) :: [.int f1]) m2 (fun _ => some (.int r0)) m2 := by
  refine Cn.of (fun ad => [some (.ref (ad 24)), some (.int f1)]) (by decide +kernel) (fun _ => rfl) (fun _ => Nat.le_of_ble_eq_true rfl) (fun Γ hl hC hR hk => ?_)
  subst hl
  replace hC : CX Γ cX7_ownerFound RX7 LAY 0 2 := hC
  dsimp only [Sharing_ownerFound] at hf
  obtain ⟨x3, e4, h5⟩ := ob hf
  suffices hJ6 : GX Γ LAY 0 0 [some (.ref (gad Γ 24)), some (.int f1)] [.int x3] m2 24 by
    obtain ⟨c7, e8, h9⟩ := ob e4
    have hc10 : true = c7 → GX Γ LAY 0 0 [some (.ref (gad Γ 24)), some (.int f1)] [] m2 13 := by
      intro q
      have h11 := ifT q.symm h9
      refine GX_aload_n hC dX7_ownerFound_13 rfl ?_
      refine GX_getR hC fkX7_23 ol_24 rfl dX7_ownerFound_14 ?_
      refine GX_iload_n hC dX7_ownerFound_17 rfl ?_
      obtain ⟨x12, e13, h14⟩ := ob h11
      refine GX_ldA hC e13 al_26 dX7_ownerFound_18 ?_
      refine GX_goto hC 24 dX7_ownerFound_19 (by decide) ?_
      exact GX_nm (oi h14) hJ6
    have hc15 : false = c7 → GX Γ LAY 0 0 [some (.ref (gad Γ 24)), some (.int f1)] [] m2 22 := by
      intro q
      have h16 := ifF q.symm h9
      refine GX_bipush hC 9 dX7_ownerFound_22 rfl ?_
      exact GX_nm (oi h16) hJ6
    refine GX_iload_n hC dX7_ownerFound_0 rfl ?_
    refine GX_if_lt_N hC 22 dX7_ownerFound_1 (by decide) (fun q => ?_) (fun q => ?_)
    · skip
      have h17 := ifP q e8
      refine GX_iload_n hC dX7_ownerFound_4 rfl ?_
      refine GX_aload_n hC dX7_ownerFound_5 rfl ?_
      refine GX_getR hC fkX7_23 ol_24 rfl dX7_ownerFound_6 ?_
      refine GX_alen hC 6 al_26 (by decide) rfl dX7_ownerFound_9 ?_
      refine GX_icmp_ge_N hC 22 dX7_ownerFound_10 (by decide) (fun q => ?_) (fun q => ?_)
      · skip
        exact hc10 (cdT q h17)
      · skip
        exact hc15 (cdF q h17)
    · skip
      have h18 := ifN q e8
      exact hc15 (oi h18)
  exact GX_iretR hC hR dX7_ownerFound_24 (oi h5)
set_option maxRecDepth 100000 in
set_option maxHeartbeats 4000000 in
theorem C_Sharing_canHave {l : Launch} {land1 : Nat} {f2 : Int32} {p3 : Int32} {m4 : MI} {r0 : Bool} (hp_land1 : isLand land1) (hf : Sharing_canHave land1 f2 p3 m4 = some r0) : Cn l yX7_canHave cX7_canHave 6 (some .boolean) 2 LAY (fun ad => .ref (ad 24) :: [.ref (ad land1), .int f2, .int p3]) m4 (fun _ => some (.int (bI r0))) m4 := by
  refine Cn.of (fun ad => [some (.ref (ad 24)), some (.ref (ad land1)), some (.int f2), some (.int p3), none, none]) (by decide +kernel) (fun _ => rfl) (fun _ => Nat.le_of_ble_eq_true rfl) (fun Γ hl hC hR hk => ?_)
  subst hl
  replace hC : CX Γ cX7_canHave RX7 LAY 2 6 := hC
  dsimp only [Sharing_canHave] at hf
  refine GX_aload_n hC dX7_canHave_0 rfl ?_
  refine GX_iload_n hC dX7_canHave_1 rfl ?_
  obtain ⟨r5, e6, h7⟩ := ob hf
  refine GX_callV_i (st := []) hC (C_Land_ownerOf hp_land1 e6) okX2_ownerOf lkX7_63 (olLand hp_land1) rfl rfl (Nat.le_of_ble_eq_true rfl) (Nat.le_of_ble_eq_true rfl) hk rfl (Nat.le_of_ble_eq_true rfl) dX7_canHave_2 ?_
  refine GX_istore hC [some (.ref (gad Γ 24)), some (.ref (gad Γ land1)), some (.int f2), some (.int p3), some (.int r5), none] dX7_canHave_5 (by decide) rfl rfl ?_
  obtain ⟨c8, e9, h10⟩ := ob h7
  have hc11 : true = c8 → GX Γ LAY 0 0 [some (.ref (gad Γ 24)), some (.ref (gad Γ land1)), some (.int f2), some (.int p3), some (.int r5), none] [] m4 27 := by
    intro q
    have h12 := ifT q.symm h10
    refine GX_iconst hC (bI false) dX7_canHave_27 rfl ?_
    exact GX_zretR hC false hR dX7_canHave_28 (oi h12)
  have hc13 : false = c8 → GX Γ LAY 0 0 [some (.ref (gad Γ 24)), some (.ref (gad Γ land1)), some (.int f2), some (.int p3), some (.int r5), none] [] m4 29 := by
    intro q
    have h14 := ifF q.symm h10
    refine GX_iconst hC 0 dX7_canHave_29 rfl ?_
    refine GX_istore hC [some (.ref (gad Γ 24)), some (.ref (gad Γ land1)), some (.int f2), some (.int p3), some (.int r5), some (.int 0)] dX7_canHave_30 (by decide) rfl rfl ?_
    obtain ⟨o15, e16, h17⟩ := ob h14
    have hR18 : ∀ res : Bool, Sum.inr res = o15 → res = r0 := by
      intro res q
      subst q
      have h17 := seR h17
      exact (oi h17)
    suffices hJ18 : Sum.inl () = o15 → GX Γ LAY 0 0 [some (.ref (gad Γ 24)), some (.ref (gad Γ land1)), some (.int f2), some (.int p3), some (.int r5), none] [] m4 81 by
      refine lp_walk (P := fun s => GX Γ LAY 0 0 [some (.ref (gad Γ 24)), some (.ref (gad Γ land1)), some (.int f2), some (.int p3), some (.int r5), some (.int s)] [] m4 32) (fun g19 x hx18 hI18 hO18 => ?_) _ _ e16
      show GX Γ LAY 0 0 [some (.ref (gad Γ 24)), some (.ref (gad Γ land1)), some (.int f2), some (.int p3), some (.int r5), some (.int g19)] [] m4 32
      dsimp only [Sharing_canHave_s1] at hx18
      obtain ⟨c20, e21, h22⟩ := ob hx18
      have hc23 : true = c20 → GX Γ LAY 0 0 [some (.ref (gad Γ 24)), some (.ref (gad Γ land1)), some (.int f2), some (.int p3), some (.int r5), some (.int g19)] [] m4 48 := by
        intro q
        have h24 := ifT q.symm h22
        obtain ⟨c25, e26, h27⟩ := ob h24
        have hc28 : true = c25 → GX Γ LAY 0 0 [some (.ref (gad Γ 24)), some (.ref (gad Γ land1)), some (.int f2), some (.int p3), some (.int r5), some (.int g19)] [] m4 73 := by
          intro q
          have h29 := ifT q.symm h27
          refine GX_iconst hC (bI false) dX7_canHave_73 rfl ?_
          exact GX_zretR hC false hR dX7_canHave_74 (hR18 _ (hO18 _ (oi h29).symm))
        have hc30 : false = c25 → GX Γ LAY 0 0 [some (.ref (gad Γ 24)), some (.ref (gad Γ land1)), some (.int f2), some (.int p3), some (.int r5), some (.int g19)] [] m4 75 := by
          intro q
          have h31 := ifF q.symm h27
          obtain ⟨i32, e33, h34⟩ := ob h31
          refine GX_iinc hC i32 [some (.ref (gad Γ 24)), some (.ref (gad Γ land1)), some (.int f2), some (.int p3), some (.int r5), some (.int i32)] dX7_canHave_75 rfl (oi e33) (by decide) rfl rfl ?_
          refine GX_goto hC 32 dX7_canHave_78 (by decide) ?_
          exact hI18 _ (oi h34).symm
        refine GX_aload_n hC dX7_canHave_48 rfl ?_
        refine GX_aload_n hC dX7_canHave_49 rfl ?_
        refine GX_getR hC fkX7_19 ol_24 rfl dX7_canHave_50 ?_
        refine GX_iload hC dX7_canHave_53 rfl ?_
        obtain ⟨x35, e36, h37⟩ := ob e26
        refine GX_ldA hC e36 al_25 dX7_canHave_55 ?_
        refine GX_iload_n hC dX7_canHave_56 rfl ?_
        obtain ⟨b38, e39, h40⟩ := ob h37
        refine GX_callV_i (st := []) hC (C_Land_asOne hp_land1 e39) okX2_asOne lkX7_66 (olLand hp_land1) rfl rfl (Nat.le_of_ble_eq_true rfl) (Nat.le_of_ble_eq_true rfl) hk rfl (Nat.le_of_ble_eq_true rfl) dX7_canHave_57 ?_
        refine GX_ifb_eq hC 75 dX7_canHave_60 (by decide) (fun q => ?_) (fun q => ?_)
        · skip
          have h41 := ifT q h40
          refine GX_aload_n hC dX7_canHave_63 rfl ?_
          refine GX_iload hC dX7_canHave_64 rfl ?_
          refine GX_iload_n hC dX7_canHave_66 rfl ?_
          obtain ⟨b42, e43, h44⟩ := ob h41
          refine GX_callV_i (st := []) hC (C_Land_bars hp_land1 e43) okX2_bars lkX7_70 (olLand hp_land1) rfl rfl (Nat.le_of_ble_eq_true rfl) (Nat.le_of_ble_eq_true rfl) hk rfl (Nat.le_of_ble_eq_true rfl) dX7_canHave_67 ?_
          refine GX_ifb_eq hC 75 dX7_canHave_70 (by decide) (fun q => ?_) (fun q => ?_)
          · skip
            exact hc28 (cbT q h44)
          · skip
            exact hc30 (cbF q h44)
        · skip
          have h45 := ifF q h40
          exact hc30 (oi h45)
      have hc46 : false = c20 → GX Γ LAY 0 0 [some (.ref (gad Γ 24)), some (.ref (gad Γ land1)), some (.int f2), some (.int p3), some (.int r5), some (.int g19)] [] m4 81 := by
        intro q
        have h47 := ifF q.symm h22
        exact GX.le (hJ18 (hO18 _ (oi h47).symm)) ⟨rfl, ⟨rfl, ⟨rfl, ⟨rfl, ⟨rfl, trivial⟩⟩⟩⟩⟩
      refine GX_iload hC dX7_canHave_32 rfl ?_
      refine GX_iload_n hC dX7_canHave_34 rfl ?_
      refine GX_icmp_ge_N hC 81 dX7_canHave_35 (by decide) (fun q => ?_) (fun q => ?_)
      · skip
        have h48 := ifP q e21
        refine GX_iload hC dX7_canHave_38 rfl ?_
        refine GX_aload_n hC dX7_canHave_40 rfl ?_
        refine GX_getR hC fkX7_19 ol_24 rfl dX7_canHave_41 ?_
        refine GX_alen hC 6 al_25 (by decide) rfl dX7_canHave_44 ?_
        refine GX_icmp_ge_N hC 81 dX7_canHave_45 (by decide) (fun q => ?_) (fun q => ?_)
        · skip
          exact hc23 (cdT q h48)
        · skip
          exact hc46 (cdF q h48)
      · skip
        have h49 := ifN q e21
        exact hc46 (oi h49)
    intro q50
    subst q50
    have h17 := seL h17
    refine GX_iconst hC (bI true) dX7_canHave_81 rfl ?_
    exact GX_zretR hC true hR dX7_canHave_82 (oi h17)
  refine GX_aload_n hC dX7_canHave_7 rfl ?_
  obtain ⟨b52, e53, h54⟩ := ob e9
  refine GX_ldZ hC e53 fkX7_15 ol_24 rfl dX7_canHave_8 ?_
  refine GX_ifb_eq hC 29 dX7_canHave_11 (by decide) (fun q => ?_) (fun q => ?_)
  · skip
    have h55 := ifT q h54
    refine GX_iload hC dX7_canHave_14 rfl ?_
    refine GX_bipush hC 9 dX7_canHave_16 rfl ?_
    refine GX_icmp_eq_N hC 29 dX7_canHave_18 (by decide) (fun q => ?_) (fun q => ?_)
    · skip
      have h56 := ifP q h55
      refine GX_iload hC dX7_canHave_21 rfl ?_
      refine GX_iload_n hC dX7_canHave_23 rfl ?_
      refine GX_icmp_eq_N hC 29 dX7_canHave_24 (by decide) (fun q => ?_) (fun q => ?_)
      · skip
        exact hc11 (cdT q h56)
      · skip
        exact hc13 (cdF q h56)
    · skip
      have h57 := ifN q h55
      exact hc13 (oi h57)
  · skip
    have h58 := ifF q h54
    exact hc13 (oi h58)
set_option maxRecDepth 100000 in
set_option maxHeartbeats 4000000 in
theorem C_Sharing_keepIfBetter {l : Launch} {worth1 : Int32} {m2 : MI} {mr : MI}  (hf : Sharing_keepIfBetter worth1 m2 = some mr) : Cn l yX7_keepIfBetter cX7_keepIfBetter 2 none 1 LAY (fun ad => .ref (ad 24) :: [.int worth1]) m2 (fun _ => none) mr := by
  refine Cn.of (fun ad => [some (.ref (ad 24)), some (.int worth1)]) (by decide +kernel) (fun _ => rfl) (fun _ => Nat.le_of_ble_eq_true rfl) (fun Γ hl hC hR hk => ?_)
  subst hl
  replace hC : CX Γ cX7_keepIfBetter RX7 LAY 1 2 := hC
  dsimp only [Sharing_keepIfBetter] at hf
  obtain ⟨o3, e4, h5⟩ := ob hf
  suffices hJ7 : ∀ (m6 : MI), m6 = o3 → GX Γ LAY 0 0 [some (.ref (gad Γ 24)), some (.int worth1)] [] m6 31 by
    refine GX_iload_n hC dX7_keepIfBetter_0 rfl ?_
    refine GX_aload_n hC dX7_keepIfBetter_1 rfl ?_
    refine GX_getI hC fkX7_9 ol_24 rfl dX7_keepIfBetter_2 ?_
    refine GX_icmp_le_N hC 31 dX7_keepIfBetter_5 (by decide) (fun q => ?_) (fun q => ?_)
    · skip
      have h8 := ifP q e4
      refine GX_aload_n hC dX7_keepIfBetter_8 rfl ?_
      refine GX_iload_n hC dX7_keepIfBetter_9 rfl ?_
      obtain ⟨m9, e10, h11⟩ := ob h8
      refine GX_stF hC e10 fkX7_9 ftX7_0 ol_24 rfl dX7_keepIfBetter_10 ?_
      refine GX_aload_n hC dX7_keepIfBetter_13 rfl ?_
      refine GX_getR hC fkX7_19 ol_24 rfl dX7_keepIfBetter_14 ?_
      refine GX_iconst hC 0 dX7_keepIfBetter_17 rfl ?_
      refine GX_aload_n hC dX7_keepIfBetter_18 rfl ?_
      refine GX_getR hC fkX7_23 ol_24 rfl dX7_keepIfBetter_19 ?_
      refine GX_iconst hC 0 dX7_keepIfBetter_22 rfl ?_
      refine GX_aload_n hC dX7_keepIfBetter_23 rfl ?_
      refine GX_getR hC fkX7_23 ol_24 rfl dX7_keepIfBetter_24 ?_
      refine GX_alen hC 6 al_26 (by decide) rfl dX7_keepIfBetter_27 ?_
      obtain ⟨m12, e13, h14⟩ := ob h11
      refine GX_acp hC e13 acX7_57 (Nat.le_of_ble_eq_true rfl) al_25 al_26 (Nat.le_of_ble_eq_true rfl) dX7_keepIfBetter_28 ?_
      exact (hJ7 _ (oi h14))
    · skip
      have h15 := ifN q e4
      exact (hJ7 _ (oi h15))
  intro m6 q16
  subst q16
  exact GX_vretW hC hR dX7_keepIfBetter_31 (oi h5)
set_option maxRecDepth 100000 in
set_option maxHeartbeats 4000000 in
theorem C_Sharing_tryFrom {l : Launch} (n_ : Nat) : ∀ {land1 : Nat} {f2 : Int32} {worth3 : Int32} {m4 : MI} {mr : MI} (hp_land1 : isLand land1) (hf : Sharing_tryFrom n_ land1 f2 worth3 m4 = some mr), Cn l yX7_tryFrom cX7_tryFrom 6 none (3 + n_) LAY (fun ad => [.ref (ad 24), .ref (ad land1), .int f2, .int worth3]) m4 (fun _ => none) mr := by
  induction n_ with
  | zero =>
    intros
    rename_i hf
    simp [Sharing_tryFrom] at hf
  | succ n_ ih_ =>
    intro land1 f2 worth3 m4 mr hp_land1 hf
    unfold Sharing_tryFrom at hf
    refine Cn.of (fun ad => [some (.ref (ad 24)), some (.ref (ad land1)), some (.int f2), some (.int worth3), none, none]) (by decide +kernel) (fun _ => rfl) (fun _ => Nat.le_of_ble_eq_true rfl) (fun Γ hl hC hR hk => ?_)
    subst hl
    replace hC : CX Γ cX7_tryFrom RX7 LAY (3 + (n_ + 1)) 6 := hC
    obtain ⟨c5, e6, h7⟩ := ob hf
    have hc8 : true = c5 → GX Γ LAY 0 0 [some (.ref (gad Γ 24)), some (.ref (gad Γ land1)), some (.int f2), some (.int worth3), none, none] [] m4 18 := by
      intro q
      have h9 := ifT q.symm h7
      refine GX_aload_n hC dX7_tryFrom_18 rfl ?_
      refine GX_iload_n hC dX7_tryFrom_19 rfl ?_
      obtain ⟨m10, e11, h12⟩ := ob h9
      refine GX_callV_v (st := []) hC (C_Sharing_keepIfBetter e11) okX7_keepIfBetter lkX7_42 ol_24 rfl rfl (by omega) (Nat.le_of_ble_eq_true rfl) hk rfl (Nat.le_of_ble_eq_true rfl) dX7_tryFrom_20 ?_
      exact GX_vretW hC hR dX7_tryFrom_23 (oi h12)
    have hc13 : false = c5 → GX Γ LAY 0 0 [some (.ref (gad Γ 24)), some (.ref (gad Γ land1)), some (.int f2), some (.int worth3), none, none] [] m4 24 := by
      intro q
      have h14 := ifF q.symm h7
      refine GX_iload_n hC dX7_tryFrom_24 rfl ?_
      refine GX_aload_n hC dX7_tryFrom_25 rfl ?_
      refine GX_getR hC fkX7_26 ol_24 rfl dX7_tryFrom_26 ?_
      refine GX_iload_n hC dX7_tryFrom_29 rfl ?_
      obtain ⟨x15, e16, h17⟩ := ob h14
      refine GX_ldA hC e16 al_27 dX7_tryFrom_30 ?_
      refine GX_iadd hC dX7_tryFrom_31 ?_
      refine GX_aload_n hC dX7_tryFrom_32 rfl ?_
      refine GX_getI hC fkX7_9 ol_24 rfl dX7_tryFrom_33 ?_
      refine GX_icmp_gt_N hC 40 dX7_tryFrom_36 (by decide) (fun q => ?_) (fun q => ?_)
      · skip
        have h18 := ifP q h17
        exact GX_vretW hC hR dX7_tryFrom_39 (oi h18)
      · skip
        have h19 := ifN q h17
        refine GX_iconst hC 0 dX7_tryFrom_40 rfl ?_
        refine GX_istore hC [some (.ref (gad Γ 24)), some (.ref (gad Γ land1)), some (.int f2), some (.int worth3), some (.int 0), none] dX7_tryFrom_41 (by decide) rfl rfl ?_
        obtain ⟨o20, e21, h22⟩ := ob h19
        suffices hJ23 : ∀ (m26 : MI), m26 = o20 → GX Γ LAY 0 0 [some (.ref (gad Γ 24)), some (.ref (gad Γ land1)), some (.int f2), some (.int worth3), none, none] [] m26 110 by
          refine lp_walk (P := fun s => GX Γ LAY 0 0 [some (.ref (gad Γ 24)), some (.ref (gad Γ land1)), some (.int f2), some (.int worth3), some (.int s.1), none] [] s.2 43) (fun s x hx23 hI23 hO23 => ?_) _ _ e21
          obtain ⟨n24, m25⟩ := s
          show GX Γ LAY 0 0 [some (.ref (gad Γ 24)), some (.ref (gad Γ land1)), some (.int f2), some (.int worth3), some (.int n24), none] [] m25 43
          dsimp only [Sharing_tryFrom_s1] at hx23
          refine GX_iload hC dX7_tryFrom_43 rfl ?_
          refine GX_aload_n hC dX7_tryFrom_45 rfl ?_
          refine GX_getI hC fkX7_46 (olLand hp_land1) rfl dX7_tryFrom_46 ?_
          refine GX_icmp_gt_N hC 110 dX7_tryFrom_49 (by decide) (fun q => ?_) (fun q => ?_)
          · skip
            have h27 := ifP q hx23
            obtain ⟨x28, e29, h30⟩ := ob h27
            suffices hJ31 : GX Γ LAY 0 0 [some (.ref (gad Γ 24)), some (.ref (gad Γ land1)), some (.int f2), some (.int worth3), some (.int n24), none] [.int x28] m25 66 by
              refine GX_iload hC dX7_tryFrom_52 rfl ?_
              refine GX_if_ne_N hC 62 dX7_tryFrom_54 (by decide) (fun q => ?_) (fun q => ?_)
              · skip
                have h32 := ifP q e29
                refine GX_bipush hC 9 dX7_tryFrom_57 rfl ?_
                refine GX_goto hC 66 dX7_tryFrom_59 (by decide) ?_
                exact GX_nm (oi h32) hJ31
              · skip
                have h33 := ifN q e29
                refine GX_iload hC dX7_tryFrom_62 rfl ?_
                refine GX_iconst hC 1 dX7_tryFrom_64 rfl ?_
                refine GX_isub hC dX7_tryFrom_65 ?_
                exact GX_nm (oi h33) hJ31
            refine GX_istore hC [some (.ref (gad Γ 24)), some (.ref (gad Γ land1)), some (.int f2), some (.int worth3), some (.int n24), some (.int x28)] dX7_tryFrom_66 (by decide) rfl rfl ?_
            obtain ⟨o34, e35, h36⟩ := ob h30
            suffices hJ38 : ∀ (m37 : MI), m37 = o34 → GX Γ LAY 0 0 [some (.ref (gad Γ 24)), some (.ref (gad Γ land1)), some (.int f2), some (.int worth3), some (.int n24), some (.int x28)] [] m37 104 by
              refine GX_aload_n hC dX7_tryFrom_68 rfl ?_
              refine GX_aload_n hC dX7_tryFrom_69 rfl ?_
              refine GX_iload_n hC dX7_tryFrom_70 rfl ?_
              refine GX_iload hC dX7_tryFrom_71 rfl ?_
              obtain ⟨b39, e40, h41⟩ := ob e35
              refine GX_callV_i (st := []) hC (C_Sharing_canHave hp_land1 e40) okX7_canHave lkX7_49 ol_24 rfl rfl (by omega) (Nat.le_of_ble_eq_true rfl) hk rfl (Nat.le_of_ble_eq_true rfl) dX7_tryFrom_73 ?_
              refine GX_ifb_eq hC 104 dX7_tryFrom_76 (by decide) (fun q => ?_) (fun q => ?_)
              · skip
                have h42 := ifT q h41
                refine GX_aload_n hC dX7_tryFrom_79 rfl ?_
                refine GX_getR hC fkX7_19 ol_24 rfl dX7_tryFrom_80 ?_
                refine GX_iload_n hC dX7_tryFrom_83 rfl ?_
                refine GX_iload hC dX7_tryFrom_84 rfl ?_
                obtain ⟨m43, e44, h45⟩ := ob h42
                refine GX_stA hC e44 al_25 dX7_tryFrom_86 ?_
                refine GX_aload_n hC dX7_tryFrom_87 rfl ?_
                refine GX_aload_n hC dX7_tryFrom_88 rfl ?_
                refine GX_iload_n hC dX7_tryFrom_89 rfl ?_
                refine GX_iconst hC 1 dX7_tryFrom_90 rfl ?_
                refine GX_iadd hC dX7_tryFrom_91 ?_
                refine GX_iload_n hC dX7_tryFrom_92 rfl ?_
                refine GX_aload_n hC dX7_tryFrom_93 rfl ?_
                refine GX_iload hC dX7_tryFrom_94 rfl ?_
                refine GX_iload_n hC dX7_tryFrom_96 rfl ?_
                obtain ⟨r46, e47, h48⟩ := ob h45
                refine GX_callV_i (st := [.int worth3, .int (f2 + 1), .ref (gad Γ land1), .ref (gad Γ 24)]) hC (C_Land_worthTo hp_land1 e47) okX2_worthTo lkX7_53 (olLand hp_land1) rfl rfl (by omega) (Nat.le_of_ble_eq_true rfl) hk rfl (Nat.le_of_ble_eq_true rfl) dX7_tryFrom_97 ?_
                refine GX_iadd hC dX7_tryFrom_100 ?_
                obtain ⟨m49, e50, h51⟩ := ob h48
                refine GX_callS_v (st := []) hC (ih_ hp_land1 e50) okX7_tryFrom lkX7_35 rfl (by omega) (Nat.le_of_ble_eq_true rfl) hk rfl (Nat.le_of_ble_eq_true rfl) dX7_tryFrom_101 ?_
                exact (hJ38 _ (oi h51))
              · skip
                have h52 := ifF q h41
                exact (hJ38 _ (oi h52))
            intro m37 q53
            subst q53
            obtain ⟨i54, e55, h56⟩ := ob h36
            refine GX_iinc hC i54 [some (.ref (gad Γ 24)), some (.ref (gad Γ land1)), some (.int f2), some (.int worth3), some (.int i54), some (.int x28)] dX7_tryFrom_104 rfl (oi e55) (by decide) rfl rfl ?_
            refine GX_goto hC 43 dX7_tryFrom_107 (by decide) ?_
            exact GX.le (hI23 _ (oi h56).symm) ⟨rfl, ⟨rfl, ⟨rfl, ⟨rfl, ⟨rfl, trivial⟩⟩⟩⟩⟩
          · skip
            have h57 := ifN q hx23
            exact GX.le (hJ23 _ (hO23 _ (oi h57).symm)) ⟨rfl, ⟨rfl, ⟨rfl, ⟨rfl, trivial⟩⟩⟩⟩
        intro m26 q58
        subst q58
        exact GX_vretW hC hR dX7_tryFrom_110 (oi h22)
    refine GX_iload_n hC dX7_tryFrom_0 rfl ?_
    refine GX_if_lt_P hC 18 dX7_tryFrom_1 (by decide) (fun q => ?_) (fun q => ?_)
    · skip
      have h59 := ifP q e6
      exact hc8 (oi h59)
    · skip
      have h60 := ifN q e6
      refine GX_iload_n hC dX7_tryFrom_4 rfl ?_
      refine GX_bipush hC 6 dX7_tryFrom_5 rfl ?_
      refine GX_icmp_ge_P hC 18 dX7_tryFrom_7 (by decide) (fun q => ?_) (fun q => ?_)
      · skip
        have h61 := ifP q h60
        exact hc8 (oi h61)
      · skip
        have h62 := ifN q h60
        refine GX_iload_n hC dX7_tryFrom_10 rfl ?_
        refine GX_aload_n hC dX7_tryFrom_11 rfl ?_
        refine GX_getI hC fkX7_39 (olLand hp_land1) rfl dX7_tryFrom_12 ?_
        refine GX_icmp_lt_N hC 24 dX7_tryFrom_15 (by decide) (fun q => ?_) (fun q => ?_)
        · skip
          exact hc8 (cdT q h62)
        · skip
          exact hc13 (cdF q h62)
set_option maxRecDepth 100000 in
set_option maxHeartbeats 4000000 in
theorem C_Sharing_search {l : Launch} {land1 : Nat} {ownedStay2 : Bool} {m3 : MI} {mr : MI} (hp_land1 : isLand land1) (hf : Sharing_search land1 ownedStay2 m3 = some mr) : Cn l yX7_search cX7_search 4 none 24 LAY (fun ad => .ref (ad 24) :: [.ref (ad land1), .int (bI ownedStay2)]) m3 (fun _ => none) mr := by
  refine Cn.of (fun ad => [some (.ref (ad 24)), some (.ref (ad land1)), some (.int (bI ownedStay2)), none]) (by decide +kernel) (fun _ => rfl) (fun _ => Nat.le_of_ble_eq_true rfl) (fun Γ hl hC hR hk => ?_)
  subst hl
  replace hC : CX Γ cX7_search RX7 LAY 24 4 := hC
  dsimp only [Sharing_search] at hf
  refine GX_aload_n hC dX7_search_0 rfl ?_
  refine GX_iload_n hC dX7_search_1 rfl ?_
  obtain ⟨m4, e5, h6⟩ := ob hf
  refine GX_stZ hC e5 fkX7_15 ftX7_1 ol_24 rfl dX7_search_2 ?_
  refine GX_aload_n hC dX7_search_5 rfl ?_
  refine GX_iconst hC (-1) dX7_search_6 rfl ?_
  obtain ⟨m7, e8, h9⟩ := ob h6
  refine GX_stF hC e8 fkX7_9 ftX7_0 ol_24 rfl dX7_search_7 ?_
  refine GX_aload_n hC dX7_search_10 rfl ?_
  refine GX_getR hC fkX7_26 ol_24 rfl dX7_search_11 ?_
  refine GX_bipush hC 6 dX7_search_14 rfl ?_
  refine GX_iconst hC 0 dX7_search_16 rfl ?_
  obtain ⟨m10, e11, h12⟩ := ob h9
  refine GX_stA hC e11 al_27 dX7_search_17 ?_
  refine GX_iconst hC 5 dX7_search_18 rfl ?_
  refine GX_istore_n hC [some (.ref (gad Γ 24)), some (.ref (gad Γ land1)), some (.int (bI ownedStay2)), some (.int 5)] dX7_search_19 (by decide) rfl rfl ?_
  obtain ⟨o13, e14, h15⟩ := ob h12
  suffices hJ16 : ∀ (m19 : MI), m19 = o13 → GX Γ LAY 0 0 [some (.ref (gad Γ 24)), some (.ref (gad Γ land1)), some (.int (bI ownedStay2)), none] [] m19 50 by
    refine lp_walk (P := fun s => GX Γ LAY 0 0 [some (.ref (gad Γ 24)), some (.ref (gad Γ land1)), some (.int (bI ownedStay2)), some (.int s.1)] [] s.2 20) (fun s x hx16 hI16 hO16 => ?_) _ _ e14
    obtain ⟨f17, m18⟩ := s
    show GX Γ LAY 0 0 [some (.ref (gad Γ 24)), some (.ref (gad Γ land1)), some (.int (bI ownedStay2)), some (.int f17)] [] m18 20
    dsimp only [Sharing_search_s1] at hx16
    refine GX_iload_n hC dX7_search_20 rfl ?_
    refine GX_if_lt_N hC 50 dX7_search_21 (by decide) (fun q => ?_) (fun q => ?_)
    · skip
      have h20 := ifP q hx16
      refine GX_aload_n hC dX7_search_24 rfl ?_
      refine GX_getR hC fkX7_26 ol_24 rfl dX7_search_25 ?_
      refine GX_iload_n hC dX7_search_28 rfl ?_
      refine GX_aload_n hC dX7_search_29 rfl ?_
      refine GX_getR hC fkX7_26 ol_24 rfl dX7_search_30 ?_
      refine GX_iload_n hC dX7_search_33 rfl ?_
      refine GX_iconst hC 1 dX7_search_34 rfl ?_
      refine GX_iadd hC dX7_search_35 ?_
      obtain ⟨x21, e22, h23⟩ := ob h20
      refine GX_ldA hC e22 al_27 dX7_search_36 ?_
      refine GX_aload_n hC dX7_search_37 rfl ?_
      refine GX_iload_n hC dX7_search_38 rfl ?_
      obtain ⟨r24, e25, h26⟩ := ob h23
      refine GX_callV_i (st := [.int x21, .int f17, .ref (gad Γ 27)]) hC (C_Land_greatestWorth hp_land1 e25) okX2_greatestWorth lkX7_29 (olLand hp_land1) rfl rfl (Nat.le_of_ble_eq_true rfl) (Nat.le_of_ble_eq_true rfl) hk rfl (Nat.le_of_ble_eq_true rfl) dX7_search_39 ?_
      refine GX_iadd hC dX7_search_42 ?_
      obtain ⟨m27, e28, h29⟩ := ob h26
      refine GX_stA hC e28 al_27 dX7_search_43 ?_
      obtain ⟨i30, e31, h32⟩ := ob h29
      refine GX_iinc hC i30 [some (.ref (gad Γ 24)), some (.ref (gad Γ land1)), some (.int (bI ownedStay2)), some (.int i30)] dX7_search_44 rfl (oi e31) (by decide) rfl rfl ?_
      refine GX_goto hC 20 dX7_search_47 (by decide) ?_
      exact hI16 _ (oi h32).symm
    · skip
      have h33 := ifN q hx16
      exact GX.le (hJ16 _ (hO16 _ (oi h33).symm)) ⟨rfl, ⟨rfl, ⟨rfl, trivial⟩⟩⟩
  intro m19 q34
  subst q34
  refine GX_aload_n hC dX7_search_50 rfl ?_
  refine GX_aload_n hC dX7_search_51 rfl ?_
  refine GX_iconst hC 0 dX7_search_52 rfl ?_
  refine GX_iconst hC 0 dX7_search_53 rfl ?_
  obtain ⟨m35, e36, h37⟩ := ob h15
  refine GX_callS_v (st := []) hC (C_Sharing_tryFrom 20 hp_land1 e36) okX7_tryFrom lkX7_35 rfl (Nat.le_of_ble_eq_true rfl) (Nat.le_of_ble_eq_true rfl) hk rfl (Nat.le_of_ble_eq_true rfl) dX7_search_54 ?_
  exact GX_vretW hC hR dX7_search_57 (oi h37)
