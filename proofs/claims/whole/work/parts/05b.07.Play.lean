set_option maxRecDepth 100000 in
set_option maxHeartbeats 4000000 in
theorem C_Play_winningFrom {l : Launch} (n_ : Nat) : ∀ {bars1 : Nat} {mine2 : Int32} {theirs3 : Int32} {free4 : Int32} {turn5 : Int32} {m6 : MI} {r0 : Int32} (ha_bars1 : LAY[bars1]? = some (.inr (0, 6, []))) (hf : Play_winningFrom n_ bars1 mine2 theirs3 free4 turn5 m6 = some r0), Cn l yX6_winningFrom cX6_winningFrom 7 (some .int) (0 + n_) LAY (fun ad => [.ref (ad bars1), .int mine2, .int theirs3, .int free4, .int turn5]) m6 (fun _ => some (.int r0)) m6 := by
  induction n_ with
  | zero =>
    intros
    rename_i hf
    simp [Play_winningFrom] at hf
  | succ n_ ih_ =>
    intro bars1 mine2 theirs3 free4 turn5 m6 r0 ha_bars1 hf
    unfold Play_winningFrom at hf
    refine Cn.of (fun ad => [some (.ref (ad bars1)), some (.int mine2), some (.int theirs3), some (.int free4), some (.int turn5), none, none]) (by decide +kernel) (fun _ => rfl) (fun _ => Nat.le_of_ble_eq_true rfl) (fun Γ hl hC hR hk => ?_)
    subst hl
    replace hC : CX Γ cX6_winningFrom RX6 LAY (0 + (n_ + 1)) 7 := hC
    refine GX_iload hC dX6_winningFrom_0 rfl ?_
    refine GX_bipush hC 14 dX6_winningFrom_2 rfl ?_
    refine GX_icmp_le_N hC 10 dX6_winningFrom_4 (by decide) (fun q => ?_) (fun q => ?_)
    · skip
      have h7 := ifP q hf
      refine GX_bipush hC (-4) dX6_winningFrom_7 rfl ?_
      exact GX_iretR hC hR dX6_winningFrom_9 (oi h7)
    · skip
      have h8 := ifN q hf
      refine GX_iconst hC 0 dX6_winningFrom_10 rfl ?_
      refine GX_istore hC [some (.ref (gad Γ bars1)), some (.int mine2), some (.int theirs3), some (.int free4), some (.int turn5), some (.int 0), none] dX6_winningFrom_11 (by decide) rfl rfl ?_
      obtain ⟨o9, e10, h11⟩ := ob h8
      have hR12 : ∀ res : Int32, Sum.inr res = o9 → res = r0 := by
        intro res q
        subst q
        have h11 := seR h11
        exact (oi h11)
      suffices hJ12 : Sum.inl () = o9 → GX Γ LAY 0 0 [some (.ref (gad Γ bars1)), some (.int mine2), some (.int theirs3), some (.int free4), some (.int turn5), none, none] [] m6 75 by
        refine lp_walk (P := fun s => GX Γ LAY 0 0 [some (.ref (gad Γ bars1)), some (.int mine2), some (.int theirs3), some (.int free4), some (.int turn5), some (.int s), none] [] m6 13) (fun f13 x hx12 hI12 hO12 => ?_) _ _ e10
        show GX Γ LAY 0 0 [some (.ref (gad Γ bars1)), some (.int mine2), some (.int theirs3), some (.int free4), some (.int turn5), some (.int f13), none] [] m6 13
        dsimp only [Play_winningFrom_s1] at hx12
        refine GX_iload hC dX6_winningFrom_13 rfl ?_
        refine GX_aload_n hC dX6_winningFrom_15 rfl ?_
        refine GX_alen hC 6 ha_bars1 (by decide) rfl dX6_winningFrom_16 ?_
        refine GX_icmp_ge_N hC 75 dX6_winningFrom_17 (by decide) (fun q => ?_) (fun q => ?_)
        · skip
          have h14 := ifP q hx12
          refine GX_iconst hC 1 dX6_winningFrom_20 rfl ?_
          refine GX_iload hC dX6_winningFrom_21 rfl ?_
          refine GX_ishl hC dX6_winningFrom_23 ?_
          obtain ⟨bit15, e16, h17⟩ := ob h14
          refine GX_nm (oi e16) ?_
          refine GX_istore hC [some (.ref (gad Γ bars1)), some (.int mine2), some (.int theirs3), some (.int free4), some (.int turn5), some (.int f13), some (.int bit15)] dX6_winningFrom_24 (by decide) rfl rfl ?_
          obtain ⟨c18, e19, h20⟩ := ob h17
          have hc21 : true = c18 → GX Γ LAY 0 0 [some (.ref (gad Γ bars1)), some (.int mine2), some (.int theirs3), some (.int free4), some (.int turn5), some (.int f13), some (.int bit15)] [] m6 66 := by
            intro q
            have h22 := ifT q.symm h20
            refine GX_iload hC dX6_winningFrom_66 rfl ?_
            exact GX_iretR hC hR dX6_winningFrom_68 (hR12 _ (hO12 _ (oi h22).symm))
          have hc23 : false = c18 → GX Γ LAY 0 0 [some (.ref (gad Γ bars1)), some (.int mine2), some (.int theirs3), some (.int free4), some (.int turn5), some (.int f13), some (.int bit15)] [] m6 69 := by
            intro q
            have h24 := ifF q.symm h20
            obtain ⟨i25, e26, h27⟩ := ob h24
            refine GX_iinc hC i25 [some (.ref (gad Γ bars1)), some (.int mine2), some (.int theirs3), some (.int free4), some (.int turn5), some (.int i25), some (.int bit15)] dX6_winningFrom_69 rfl (oi e26) (by decide) rfl rfl ?_
            refine GX_goto hC 13 dX6_winningFrom_72 (by decide) ?_
            exact GX.le (hI12 _ (oi h27).symm) ⟨rfl, ⟨rfl, ⟨rfl, ⟨rfl, ⟨rfl, ⟨rfl, trivial⟩⟩⟩⟩⟩⟩
          refine GX_iload_n hC dX6_winningFrom_26 rfl ?_
          refine GX_iload hC dX6_winningFrom_27 rfl ?_
          refine GX_iand hC dX6_winningFrom_29 ?_
          refine GX_if_eq_N hC 69 dX6_winningFrom_30 (by decide) (fun q => ?_) (fun q => ?_)
          · skip
            have h28 := ifP q e19
            refine GX_aload_n hC dX6_winningFrom_33 rfl ?_
            refine GX_iload hC dX6_winningFrom_34 rfl ?_
            obtain ⟨x29, e30, h31⟩ := ob h28
            refine GX_ldA hC e30 ha_bars1 dX6_winningFrom_36 ?_
            refine GX_iload_n hC dX6_winningFrom_37 rfl ?_
            refine GX_iand hC dX6_winningFrom_38 ?_
            refine GX_if_ne_N hC 69 dX6_winningFrom_39 (by decide) (fun q => ?_) (fun q => ?_)
            · skip
              have h32 := ifP q h31
              refine GX_aload_n hC dX6_winningFrom_42 rfl ?_
              refine GX_iload_n hC dX6_winningFrom_43 rfl ?_
              refine GX_iload_n hC dX6_winningFrom_44 rfl ?_
              refine GX_iload hC dX6_winningFrom_45 rfl ?_
              refine GX_ior hC dX6_winningFrom_47 ?_
              refine GX_iload_n hC dX6_winningFrom_48 rfl ?_
              refine GX_iload hC dX6_winningFrom_49 rfl ?_
              refine GX_iconst hC (-1) dX6_winningFrom_51 rfl ?_
              refine GX_ixor hC dX6_winningFrom_52 ?_
              refine GX_iand hC dX6_winningFrom_53 ?_
              refine GX_iload hC dX6_winningFrom_54 rfl ?_
              refine GX_iconst hC 1 dX6_winningFrom_56 rfl ?_
              refine GX_iadd hC dX6_winningFrom_57 ?_
              obtain ⟨r33, e34, h35⟩ := ob h32
              refine GX_callS_i (st := []) hC (ih_ ha_bars1 e34) okX6_winningFrom lkX6_25 rfl (by omega) (Nat.le_of_ble_eq_true rfl) hk rfl (Nat.le_of_ble_eq_true rfl) dX6_winningFrom_58 ?_
              refine GX_bipush hC (-4) dX6_winningFrom_61 rfl ?_
              refine GX_icmp_ne_N hC 69 dX6_winningFrom_63 (by decide) (fun q => ?_) (fun q => ?_)
              · skip
                exact hc21 (cdT q h35)
              · skip
                exact hc23 (cdF q h35)
            · skip
              have h36 := ifN q h31
              exact hc23 (oi h36)
          · skip
            have h37 := ifN q e19
            exact hc23 (oi h37)
        · skip
          have h38 := ifN q hx12
          exact GX.le (hJ12 (hO12 _ (oi h38).symm)) ⟨rfl, ⟨rfl, ⟨rfl, ⟨rfl, ⟨rfl, trivial⟩⟩⟩⟩⟩
      intro q39
      subst q39
      have h11 := seL h11
      refine GX_bipush hC (-4) dX6_winningFrom_75 rfl ?_
      exact GX_iretR hC hR dX6_winningFrom_77 (oi h11)
set_option maxRecDepth 100000 in
set_option maxHeartbeats 4000000 in
theorem C_Play_winningField {l : Launch} {land1 : Nat} {m2 : MI} {r0 : Int32} {mr : MI} (hp_land1 : isLand land1) (hf : Play_winningField land1 m2 = some (r0, mr)) : Cn l yX6_winningField cX6_winningField 2 (some .int) 21 LAY (fun ad => .ref (ad 34) :: [.ref (ad land1)]) m2 (fun _ => some (.int r0)) mr := by
  refine Cn.of (fun ad => [some (.ref (ad 34)), some (.ref (ad land1))]) (by decide +kernel) (fun _ => rfl) (fun _ => Nat.le_of_ble_eq_true rfl) (fun Γ hl hC hR hk => ?_)
  subst hl
  replace hC : CX Γ cX6_winningField RX6 LAY 21 2 := hC
  dsimp only [Play_winningField] at hf
  refine GX_aload_n hC dX6_winningField_0 rfl ?_
  refine GX_aload_n hC dX6_winningField_1 rfl ?_
  refine GX_getR hC fkX6_9 ol_34 rfl dX6_winningField_2 ?_
  obtain ⟨m3, e4, h5⟩ := ob hf
  refine GX_callV_v (st := []) hC (C_Land_writeBars hp_land1 al_35 e4) okX2_writeBars lkX6_15 (olLand hp_land1) rfl rfl (Nat.le_of_ble_eq_true rfl) (Nat.le_of_ble_eq_true rfl) hk rfl (Nat.le_of_ble_eq_true rfl) dX6_winningField_5 ?_
  refine GX_aload_n hC dX6_winningField_8 rfl ?_
  refine GX_getR hC fkX6_9 ol_34 rfl dX6_winningField_9 ?_
  refine GX_aload_n hC dX6_winningField_12 rfl ?_
  refine GX_iconst hC 0 dX6_winningField_13 rfl ?_
  obtain ⟨r6, e7, h8⟩ := ob h5
  refine GX_callV_i (st := [.ref (gad Γ 35)]) hC (C_Land_fieldBits hp_land1 e7) okX2_fieldBits lkX6_21 (olLand hp_land1) rfl rfl (Nat.le_of_ble_eq_true rfl) (Nat.le_of_ble_eq_true rfl) hk rfl (Nat.le_of_ble_eq_true rfl) dX6_winningField_14 ?_
  refine GX_aload_n hC dX6_winningField_17 rfl ?_
  refine GX_iconst hC 1 dX6_winningField_18 rfl ?_
  obtain ⟨r9, e10, h11⟩ := ob h8
  refine GX_callV_i (st := [.int r6, .ref (gad Γ 35)]) hC (C_Land_fieldBits hp_land1 e10) okX2_fieldBits lkX6_21 (olLand hp_land1) rfl rfl (Nat.le_of_ble_eq_true rfl) (Nat.le_of_ble_eq_true rfl) hk rfl (Nat.le_of_ble_eq_true rfl) dX6_winningField_19 ?_
  refine GX_aload_n hC dX6_winningField_22 rfl ?_
  refine GX_bipush hC 9 dX6_winningField_23 rfl ?_
  obtain ⟨r12, e13, h14⟩ := ob h11
  refine GX_callV_i (st := [.int r9, .int r6, .ref (gad Γ 35)]) hC (C_Land_fieldBits hp_land1 e13) okX2_fieldBits lkX6_21 (olLand hp_land1) rfl rfl (Nat.le_of_ble_eq_true rfl) (Nat.le_of_ble_eq_true rfl) hk rfl (Nat.le_of_ble_eq_true rfl) dX6_winningField_25 ?_
  refine GX_iconst hC 0 dX6_winningField_28 rfl ?_
  obtain ⟨r15, e16, h17⟩ := ob h14
  refine GX_callS_i (st := []) hC (C_Play_winningFrom 20 al_35 e16) okX6_winningFrom lkX6_25 rfl (Nat.le_of_ble_eq_true rfl) (Nat.le_of_ble_eq_true rfl) hk rfl (Nat.le_of_ble_eq_true rfl) dX6_winningField_29 ?_
  exact GX_iretW hC hR dX6_winningField_32 (oi h17)
set_option maxRecDepth 100000 in
set_option maxHeartbeats 4000000 in
theorem C_Play_canTake {l : Launch} {bars1 : Nat} {mine2 : Int32} {free3 : Int32} {m4 : MI} {r0 : Bool} (ha_bars1 : LAY[bars1]? = some (.inr (0, 6, []))) (hf : Play_canTake bars1 mine2 free3 m4 = some r0) : Cn l yX6_canTake cX6_canTake 4 (some .boolean) 0 LAY (fun ad => [.ref (ad bars1), .int mine2, .int free3]) m4 (fun _ => some (.int (bI r0))) m4 := by
  refine Cn.of (fun ad => [some (.ref (ad bars1)), some (.int mine2), some (.int free3), none]) (by decide +kernel) (fun _ => rfl) (fun _ => Nat.le_of_ble_eq_true rfl) (fun Γ hl hC hR hk => ?_)
  subst hl
  replace hC : CX Γ cX6_canTake RX6 LAY 0 4 := hC
  dsimp only [Play_canTake] at hf
  refine GX_iconst hC 0 dX6_canTake_0 rfl ?_
  refine GX_istore_n hC [some (.ref (gad Γ bars1)), some (.int mine2), some (.int free3), some (.int 0)] dX6_canTake_1 (by decide) rfl rfl ?_
  obtain ⟨o5, e6, h7⟩ := ob hf
  have hR8 : ∀ res : Bool, Sum.inr res = o5 → res = r0 := by
    intro res q
    subst q
    have h7 := seR h7
    exact (oi h7)
  suffices hJ8 : Sum.inl () = o5 → GX Γ LAY 0 0 [some (.ref (gad Γ bars1)), some (.int mine2), some (.int free3), none] [] m4 33 by
    refine lp_walk (P := fun s => GX Γ LAY 0 0 [some (.ref (gad Γ bars1)), some (.int mine2), some (.int free3), some (.int s)] [] m4 2) (fun f9 x hx8 hI8 hO8 => ?_) _ _ e6
    show GX Γ LAY 0 0 [some (.ref (gad Γ bars1)), some (.int mine2), some (.int free3), some (.int f9)] [] m4 2
    dsimp only [Play_canTake_s1] at hx8
    refine GX_iload_n hC dX6_canTake_2 rfl ?_
    refine GX_aload_n hC dX6_canTake_3 rfl ?_
    refine GX_alen hC 6 ha_bars1 (by decide) rfl dX6_canTake_4 ?_
    refine GX_icmp_ge_N hC 33 dX6_canTake_5 (by decide) (fun q => ?_) (fun q => ?_)
    · skip
      have h10 := ifP q hx8
      obtain ⟨c11, e12, h13⟩ := ob h10
      have hc14 : true = c11 → GX Γ LAY 0 0 [some (.ref (gad Γ bars1)), some (.int mine2), some (.int free3), some (.int f9)] [] m4 25 := by
        intro q
        have h15 := ifT q.symm h13
        refine GX_iconst hC (bI true) dX6_canTake_25 rfl ?_
        exact GX_zretR hC true hR dX6_canTake_26 (hR8 _ (hO8 _ (oi h15).symm))
      have hc16 : false = c11 → GX Γ LAY 0 0 [some (.ref (gad Γ bars1)), some (.int mine2), some (.int free3), some (.int f9)] [] m4 27 := by
        intro q
        have h17 := ifF q.symm h13
        obtain ⟨i18, e19, h20⟩ := ob h17
        refine GX_iinc hC i18 [some (.ref (gad Γ bars1)), some (.int mine2), some (.int free3), some (.int i18)] dX6_canTake_27 rfl (oi e19) (by decide) rfl rfl ?_
        refine GX_goto hC 2 dX6_canTake_30 (by decide) ?_
        exact hI8 _ (oi h20).symm
      refine GX_iload_n hC dX6_canTake_8 rfl ?_
      refine GX_iload_n hC dX6_canTake_9 rfl ?_
      refine GX_ishr hC dX6_canTake_10 ?_
      refine GX_iconst hC 1 dX6_canTake_11 rfl ?_
      refine GX_iand hC dX6_canTake_12 ?_
      refine GX_iconst hC 1 dX6_canTake_13 rfl ?_
      refine GX_icmp_ne_N hC 27 dX6_canTake_14 (by decide) (fun q => ?_) (fun q => ?_)
      · skip
        have h21 := ifP q e12
        refine GX_aload_n hC dX6_canTake_17 rfl ?_
        refine GX_iload_n hC dX6_canTake_18 rfl ?_
        obtain ⟨x22, e23, h24⟩ := ob h21
        refine GX_ldA hC e23 ha_bars1 dX6_canTake_19 ?_
        refine GX_iload_n hC dX6_canTake_20 rfl ?_
        refine GX_iand hC dX6_canTake_21 ?_
        refine GX_if_ne_N hC 27 dX6_canTake_22 (by decide) (fun q => ?_) (fun q => ?_)
        · skip
          exact hc14 (cdT q h24)
        · skip
          exact hc16 (cdF q h24)
      · skip
        have h25 := ifN q e12
        exact hc16 (oi h25)
    · skip
      have h26 := ifN q hx8
      exact GX.le (hJ8 (hO8 _ (oi h26).symm)) ⟨rfl, ⟨rfl, ⟨rfl, trivial⟩⟩⟩
  intro q27
  subst q27
  have h7 := seL h7
  refine GX_iconst hC (bI false) dX6_canTake_33 rfl ?_
  exact GX_zretR hC false hR dX6_canTake_34 (oi h7)
set_option maxRecDepth 100000 in
set_option maxHeartbeats 4000000 in
theorem C_Play_leadFrom {l : Launch} (n_ : Nat) : ∀ {bars1 : Nat} {mine2 : Int32} {theirs3 : Int32} {free4 : Int32} {turn5 : Int32} {m6 : MI} {r0 : Int32} (ha_bars1 : LAY[bars1]? = some (.inr (0, 6, []))) (hf : Play_leadFrom n_ bars1 mine2 theirs3 free4 turn5 m6 = some r0), Cn l yX6_leadFrom cX6_leadFrom 9 (some .int) (1 + n_) LAY (fun ad => [.ref (ad bars1), .int mine2, .int theirs3, .int free4, .int turn5]) m6 (fun _ => some (.int r0)) m6 := by
  induction n_ with
  | zero =>
    intros
    rename_i hf
    simp [Play_leadFrom] at hf
  | succ n_ ih_ =>
    intro bars1 mine2 theirs3 free4 turn5 m6 r0 ha_bars1 hf
    unfold Play_leadFrom at hf
    refine Cn.of (fun ad => [some (.ref (ad bars1)), some (.int mine2), some (.int theirs3), some (.int free4), some (.int turn5), none, none, none, none]) (by decide +kernel) (fun _ => rfl) (fun _ => Nat.le_of_ble_eq_true rfl) (fun Γ hl hC hR hk => ?_)
    subst hl
    replace hC : CX Γ cX6_leadFrom RX6 LAY (1 + (n_ + 1)) 9 := hC
    refine GX_iload hC dX6_leadFrom_0 rfl ?_
    refine GX_bipush hC 14 dX6_leadFrom_2 rfl ?_
    refine GX_icmp_le_N hC 9 dX6_leadFrom_4 (by decide) (fun q => ?_) (fun q => ?_)
    · skip
      have h7 := ifP q hf
      refine GX_iconst hC 0 dX6_leadFrom_7 rfl ?_
      exact GX_iretR hC hR dX6_leadFrom_8 (oi h7)
    · skip
      have h8 := ifN q hf
      refine GX_aload_n hC dX6_leadFrom_9 rfl ?_
      refine GX_iload_n hC dX6_leadFrom_10 rfl ?_
      refine GX_iload_n hC dX6_leadFrom_11 rfl ?_
      obtain ⟨b9, e10, h11⟩ := ob h8
      refine GX_callS_i (st := []) hC (C_Play_canTake ha_bars1 e10) okX6_canTake lkX6_32 rfl (by omega) (Nat.le_of_ble_eq_true rfl) hk rfl (Nat.le_of_ble_eq_true rfl) dX6_leadFrom_12 ?_
      refine GX_ifb_ne hC 56 dX6_leadFrom_15 (by decide) (fun q => ?_) (fun q => ?_)
      · skip
        have h12 := ifT q h11
        refine GX_bipush hC (-6) dX6_leadFrom_56 rfl ?_
        refine GX_istore hC [some (.ref (gad Γ bars1)), some (.int mine2), some (.int theirs3), some (.int free4), some (.int turn5), some (.int (-6)), none, none, none] dX6_leadFrom_58 (by decide) rfl rfl ?_
        refine GX_iconst hC 0 dX6_leadFrom_60 rfl ?_
        refine GX_istore hC [some (.ref (gad Γ bars1)), some (.int mine2), some (.int theirs3), some (.int free4), some (.int turn5), some (.int (-6)), some (.int 0), none, none] dX6_leadFrom_61 (by decide) rfl rfl ?_
        obtain ⟨o13, e14, h15⟩ := ob h12
        suffices hJ16 : ∀ (most19 : Int32), most19 = o13 → GX Γ LAY 0 0 [some (.ref (gad Γ bars1)), some (.int mine2), some (.int theirs3), some (.int free4), some (.int turn5), some (.int most19), none, none, none] [] m6 130 by
          refine lp_walk (P := fun s => GX Γ LAY 0 0 [some (.ref (gad Γ bars1)), some (.int mine2), some (.int theirs3), some (.int free4), some (.int turn5), some (.int s.1), some (.int s.2), none, none] [] m6 63) (fun s x hx16 hI16 hO16 => ?_) _ _ e14
          obtain ⟨most17, f18⟩ := s
          show GX Γ LAY 0 0 [some (.ref (gad Γ bars1)), some (.int mine2), some (.int theirs3), some (.int free4), some (.int turn5), some (.int most17), some (.int f18), none, none] [] m6 63
          dsimp only [Play_leadFrom_s1] at hx16
          refine GX_iload hC dX6_leadFrom_63 rfl ?_
          refine GX_aload_n hC dX6_leadFrom_65 rfl ?_
          refine GX_alen hC 6 ha_bars1 (by decide) rfl dX6_leadFrom_66 ?_
          refine GX_icmp_ge_N hC 130 dX6_leadFrom_67 (by decide) (fun q => ?_) (fun q => ?_)
          · skip
            have h20 := ifP q hx16
            refine GX_iconst hC 1 dX6_leadFrom_70 rfl ?_
            refine GX_iload hC dX6_leadFrom_71 rfl ?_
            refine GX_ishl hC dX6_leadFrom_73 ?_
            obtain ⟨bit21, e22, h23⟩ := ob h20
            refine GX_nm (oi e22) ?_
            refine GX_istore hC [some (.ref (gad Γ bars1)), some (.int mine2), some (.int theirs3), some (.int free4), some (.int turn5), some (.int most17), some (.int f18), some (.int bit21), none] dX6_leadFrom_74 (by decide) rfl rfl ?_
            obtain ⟨o24, e25, h26⟩ := ob h23
            suffices hJ28 : ∀ (most27 : Int32), most27 = o24 → GX Γ LAY 0 0 [some (.ref (gad Γ bars1)), some (.int mine2), some (.int theirs3), some (.int free4), some (.int turn5), some (.int most27), some (.int f18), some (.int bit21), none] [] m6 124 by
              obtain ⟨c29, e30, h31⟩ := ob e25
              have hc32 : true = c29 → GX Γ LAY 0 0 [some (.ref (gad Γ bars1)), some (.int mine2), some (.int theirs3), some (.int free4), some (.int turn5), some (.int most17), some (.int f18), some (.int bit21), none] [] m6 92 := by
                intro q
                have h33 := ifT q.symm h31
                refine GX_aload_n hC dX6_leadFrom_92 rfl ?_
                refine GX_iload_n hC dX6_leadFrom_93 rfl ?_
                refine GX_iload_n hC dX6_leadFrom_94 rfl ?_
                refine GX_iload hC dX6_leadFrom_95 rfl ?_
                refine GX_ior hC dX6_leadFrom_97 ?_
                refine GX_iload_n hC dX6_leadFrom_98 rfl ?_
                refine GX_iload hC dX6_leadFrom_99 rfl ?_
                refine GX_iconst hC (-1) dX6_leadFrom_101 rfl ?_
                refine GX_ixor hC dX6_leadFrom_102 ?_
                refine GX_iand hC dX6_leadFrom_103 ?_
                refine GX_iload hC dX6_leadFrom_104 rfl ?_
                refine GX_iconst hC 1 dX6_leadFrom_106 rfl ?_
                refine GX_iadd hC dX6_leadFrom_107 ?_
                obtain ⟨r34, e35, h36⟩ := ob h33
                refine GX_callS_i (st := []) hC (ih_ ha_bars1 e35) okX6_leadFrom lkX6_29 rfl (by omega) (Nat.le_of_ble_eq_true rfl) hk rfl (Nat.le_of_ble_eq_true rfl) dX6_leadFrom_108 ?_
                refine GX_istore hC [some (.ref (gad Γ bars1)), some (.int mine2), some (.int theirs3), some (.int free4), some (.int turn5), some (.int most17), some (.int f18), some (.int bit21), some (.int r34)] dX6_leadFrom_111 (by decide) rfl rfl ?_
                refine GX_iload hC dX6_leadFrom_113 rfl ?_
                refine GX_iconst hC 1 dX6_leadFrom_115 rfl ?_
                refine GX_iload hC dX6_leadFrom_116 rfl ?_
                refine GX_isub hC dX6_leadFrom_118 ?_
                refine GX_mx hC mtX6_36 (by omega) hk (Nat.le_of_ble_eq_true rfl) dX6_leadFrom_119 ?_
                obtain ⟨most37, e38, h39⟩ := ob h36
                refine GX_nm (oi e38) ?_
                refine GX_istore hC [some (.ref (gad Γ bars1)), some (.int mine2), some (.int theirs3), some (.int free4), some (.int turn5), some (.int most37), some (.int f18), some (.int bit21), some (.int r34)] dX6_leadFrom_122 (by decide) rfl rfl ?_
                exact GX.le (hJ28 _ (oi h39)) ⟨rfl, ⟨rfl, ⟨rfl, ⟨rfl, ⟨rfl, ⟨rfl, ⟨rfl, ⟨rfl, trivial⟩⟩⟩⟩⟩⟩⟩⟩
              have hc40 : false = c29 → GX Γ LAY 0 0 [some (.ref (gad Γ bars1)), some (.int mine2), some (.int theirs3), some (.int free4), some (.int turn5), some (.int most17), some (.int f18), some (.int bit21), none] [] m6 124 := by
                intro q
                have h41 := ifF q.symm h31
                exact (hJ28 _ (oi h41))
              refine GX_iload_n hC dX6_leadFrom_76 rfl ?_
              refine GX_iload hC dX6_leadFrom_77 rfl ?_
              refine GX_iand hC dX6_leadFrom_79 ?_
              refine GX_if_eq_N hC 124 dX6_leadFrom_80 (by decide) (fun q => ?_) (fun q => ?_)
              · skip
                have h42 := ifP q e30
                refine GX_aload_n hC dX6_leadFrom_83 rfl ?_
                refine GX_iload hC dX6_leadFrom_84 rfl ?_
                obtain ⟨x43, e44, h45⟩ := ob h42
                refine GX_ldA hC e44 ha_bars1 dX6_leadFrom_86 ?_
                refine GX_iload_n hC dX6_leadFrom_87 rfl ?_
                refine GX_iand hC dX6_leadFrom_88 ?_
                refine GX_if_ne_N hC 124 dX6_leadFrom_89 (by decide) (fun q => ?_) (fun q => ?_)
                · skip
                  exact hc32 (cdT q h45)
                · skip
                  exact hc40 (cdF q h45)
              · skip
                have h46 := ifN q e30
                exact hc40 (oi h46)
            intro most27 q47
            subst q47
            obtain ⟨i48, e49, h50⟩ := ob h26
            refine GX_iinc hC i48 [some (.ref (gad Γ bars1)), some (.int mine2), some (.int theirs3), some (.int free4), some (.int turn5), some (.int most27), some (.int i48), some (.int bit21), none] dX6_leadFrom_124 rfl (oi e49) (by decide) rfl rfl ?_
            refine GX_goto hC 63 dX6_leadFrom_127 (by decide) ?_
            exact GX.le (hI16 _ (oi h50).symm) ⟨rfl, ⟨rfl, ⟨rfl, ⟨rfl, ⟨rfl, ⟨rfl, ⟨rfl, trivial⟩⟩⟩⟩⟩⟩⟩
          · skip
            have h51 := ifN q hx16
            exact GX.le (hJ16 _ (hO16 _ (oi h51).symm)) ⟨rfl, ⟨rfl, ⟨rfl, ⟨rfl, ⟨rfl, ⟨rfl, trivial⟩⟩⟩⟩⟩⟩
        intro most19 q52
        subst q52
        refine GX_iload hC dX6_leadFrom_130 rfl ?_
        exact GX_iretR hC hR dX6_leadFrom_132 (oi h15)
      · skip
        have h53 := ifF q h11
        obtain ⟨c54, e55, h56⟩ := ob h53
        suffices hJ57 : GX Γ LAY 0 0 [some (.ref (gad Γ bars1)), some (.int mine2), some (.int theirs3), some (.int free4), some (.int turn5), none, none, none, none] [.int (bI c54)] m6 32 by
          have hc58 : true = c54 → GX Γ LAY 0 0 [some (.ref (gad Γ bars1)), some (.int mine2), some (.int theirs3), some (.int free4), some (.int turn5), none, none, none, none] [] m6 27 := by
            intro q
            subst q
            refine GX_iconst hC (bI true) dX6_leadFrom_27 rfl ?_
            refine GX_goto hC 32 dX6_leadFrom_28 (by decide) ?_
            exact hJ57
          have hc59 : false = c54 → GX Γ LAY 0 0 [some (.ref (gad Γ bars1)), some (.int mine2), some (.int theirs3), some (.int free4), some (.int turn5), none, none, none, none] [] m6 31 := by
            intro q
            subst q
            refine GX_iconst hC (bI false) dX6_leadFrom_31 rfl ?_
            exact hJ57
          refine GX_aload_n hC dX6_leadFrom_18 rfl ?_
          refine GX_iload_n hC dX6_leadFrom_19 rfl ?_
          refine GX_iload_n hC dX6_leadFrom_20 rfl ?_
          obtain ⟨b60, e61, h62⟩ := ob e55
          refine GX_callS_i (st := []) hC (C_Play_canTake ha_bars1 e61) okX6_canTake lkX6_32 rfl (by omega) (Nat.le_of_ble_eq_true rfl) hk rfl (Nat.le_of_ble_eq_true rfl) dX6_leadFrom_21 ?_
          refine GX_ifb_ne hC 31 dX6_leadFrom_24 (by decide) (fun q => ?_) (fun q => ?_)
          · skip
            exact hc59 (cbnT q h62)
          · skip
            exact hc58 (cbnF q h62)
        refine GX_istore hC [some (.ref (gad Γ bars1)), some (.int mine2), some (.int theirs3), some (.int free4), some (.int turn5), some (.int (bI c54)), none, none, none] dX6_leadFrom_32 (by decide) rfl rfl ?_
        obtain ⟨x63, e64, h65⟩ := ob h56
        suffices hJ66 : GX Γ LAY 0 0 [some (.ref (gad Γ bars1)), some (.int mine2), some (.int theirs3), some (.int free4), some (.int turn5), some (.int (bI c54)), none, none, none] [.int x63] m6 55 by
          refine GX_iload hC dX6_leadFrom_34 rfl ?_
          refine GX_ifb_eq hC 43 dX6_leadFrom_36 (by decide) (fun q => ?_) (fun q => ?_)
          · skip
            have h67 := ifT q e64
            refine GX_iconst hC 0 dX6_leadFrom_39 rfl ?_
            refine GX_goto hC 55 dX6_leadFrom_40 (by decide) ?_
            exact GX_nm (oi h67) hJ66
          · skip
            have h68 := ifF q e64
            refine GX_aload_n hC dX6_leadFrom_43 rfl ?_
            refine GX_iload_n hC dX6_leadFrom_44 rfl ?_
            refine GX_iload_n hC dX6_leadFrom_45 rfl ?_
            refine GX_iload_n hC dX6_leadFrom_46 rfl ?_
            refine GX_iload hC dX6_leadFrom_47 rfl ?_
            refine GX_iconst hC 1 dX6_leadFrom_49 rfl ?_
            refine GX_iadd hC dX6_leadFrom_50 ?_
            obtain ⟨r69, e70, h71⟩ := ob h68
            refine GX_callS_i (st := []) hC (ih_ ha_bars1 e70) okX6_leadFrom lkX6_29 rfl (by omega) (Nat.le_of_ble_eq_true rfl) hk rfl (Nat.le_of_ble_eq_true rfl) dX6_leadFrom_51 ?_
            refine GX_ineg hC dX6_leadFrom_54 ?_
            exact GX_nm (oi h71) hJ66
        exact GX_iretR hC hR dX6_leadFrom_55 (oi h65)
set_option maxRecDepth 100000 in
set_option maxHeartbeats 4000000 in
theorem C_Play_lead {l : Launch} {land1 : Nat} {m2 : MI} {r0 : Int32} {mr : MI} (hp_land1 : isLand land1) (hf : Play_lead land1 m2 = some (r0, mr)) : Cn l yX6_lead cX6_lead 2 (some .int) 22 LAY (fun ad => .ref (ad 34) :: [.ref (ad land1)]) m2 (fun _ => some (.int r0)) mr := by
  refine Cn.of (fun ad => [some (.ref (ad 34)), some (.ref (ad land1))]) (by decide +kernel) (fun _ => rfl) (fun _ => Nat.le_of_ble_eq_true rfl) (fun Γ hl hC hR hk => ?_)
  subst hl
  replace hC : CX Γ cX6_lead RX6 LAY 22 2 := hC
  dsimp only [Play_lead] at hf
  refine GX_aload_n hC dX6_lead_0 rfl ?_
  refine GX_aload_n hC dX6_lead_1 rfl ?_
  refine GX_getR hC fkX6_9 ol_34 rfl dX6_lead_2 ?_
  obtain ⟨m3, e4, h5⟩ := ob hf
  refine GX_callV_v (st := []) hC (C_Land_writeBars hp_land1 al_35 e4) okX2_writeBars lkX6_15 (olLand hp_land1) rfl rfl (Nat.le_of_ble_eq_true rfl) (Nat.le_of_ble_eq_true rfl) hk rfl (Nat.le_of_ble_eq_true rfl) dX6_lead_5 ?_
  refine GX_aload_n hC dX6_lead_8 rfl ?_
  refine GX_getR hC fkX6_9 ol_34 rfl dX6_lead_9 ?_
  refine GX_aload_n hC dX6_lead_12 rfl ?_
  refine GX_iconst hC 0 dX6_lead_13 rfl ?_
  obtain ⟨r6, e7, h8⟩ := ob h5
  refine GX_callV_i (st := [.ref (gad Γ 35)]) hC (C_Land_fieldBits hp_land1 e7) okX2_fieldBits lkX6_21 (olLand hp_land1) rfl rfl (Nat.le_of_ble_eq_true rfl) (Nat.le_of_ble_eq_true rfl) hk rfl (Nat.le_of_ble_eq_true rfl) dX6_lead_14 ?_
  refine GX_aload_n hC dX6_lead_17 rfl ?_
  refine GX_iconst hC 1 dX6_lead_18 rfl ?_
  obtain ⟨r9, e10, h11⟩ := ob h8
  refine GX_callV_i (st := [.int r6, .ref (gad Γ 35)]) hC (C_Land_fieldBits hp_land1 e10) okX2_fieldBits lkX6_21 (olLand hp_land1) rfl rfl (Nat.le_of_ble_eq_true rfl) (Nat.le_of_ble_eq_true rfl) hk rfl (Nat.le_of_ble_eq_true rfl) dX6_lead_19 ?_
  refine GX_aload_n hC dX6_lead_22 rfl ?_
  refine GX_bipush hC 9 dX6_lead_23 rfl ?_
  obtain ⟨r12, e13, h14⟩ := ob h11
  refine GX_callV_i (st := [.int r9, .int r6, .ref (gad Γ 35)]) hC (C_Land_fieldBits hp_land1 e13) okX2_fieldBits lkX6_21 (olLand hp_land1) rfl rfl (Nat.le_of_ble_eq_true rfl) (Nat.le_of_ble_eq_true rfl) hk rfl (Nat.le_of_ble_eq_true rfl) dX6_lead_25 ?_
  refine GX_iconst hC 0 dX6_lead_28 rfl ?_
  obtain ⟨r15, e16, h17⟩ := ob h14
  refine GX_callS_i (st := []) hC (C_Play_leadFrom 20 al_35 e16) okX6_leadFrom lkX6_29 rfl (Nat.le_of_ble_eq_true rfl) (Nat.le_of_ble_eq_true rfl) hk rfl (Nat.le_of_ble_eq_true rfl) dX6_lead_29 ?_
  exact GX_iretW hC hR dX6_lead_32 (oi h17)
