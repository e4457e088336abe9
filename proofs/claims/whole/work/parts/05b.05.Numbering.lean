set_option maxRecDepth 100000 in
set_option maxHeartbeats 4000000 in
theorem C_Numbering_canHave {l : Launch} {land1 : Nat} {f2 : Int32} {p3 : Int32} {m4 : MI} {r0 : Bool} (hp_land1 : isLand land1) (hf : Numbering_canHave land1 f2 p3 m4 = some r0) : Cn l yX5_canHave cX5_canHave 5 (some .boolean) 2 LAY (fun ad => .ref (ad 28) :: [.ref (ad land1), .int f2, .int p3]) m4 (fun _ => some (.int (bI r0))) m4 := by
  refine Cn.of (fun ad => [some (.ref (ad 28)), some (.ref (ad land1)), some (.int f2), some (.int p3), none]) (by decide +kernel) (fun _ => rfl) (fun _ => Nat.le_of_ble_eq_true rfl) (fun Γ hl hC hR hk => ?_)
  subst hl
  replace hC : CX Γ cX5_canHave RX5 LAY 2 5 := hC
  dsimp only [Numbering_canHave] at hf
  refine GX_iconst hC 0 dX5_canHave_0 rfl ?_
  refine GX_istore hC [some (.ref (gad Γ 28)), some (.ref (gad Γ land1)), some (.int f2), some (.int p3), some (.int 0)] dX5_canHave_1 (by decide) rfl rfl ?_
  obtain ⟨o5, e6, h7⟩ := ob hf
  have hR8 : ∀ res : Bool, Sum.inr res = o5 → res = r0 := by
    intro res q
    subst q
    have h7 := seR h7
    exact (oi h7)
  suffices hJ8 : Sum.inl () = o5 → GX Γ LAY 0 0 [some (.ref (gad Γ 28)), some (.ref (gad Γ land1)), some (.int f2), some (.int p3), none] [] m4 48 by
    refine lp_walk (P := fun s => GX Γ LAY 0 0 [some (.ref (gad Γ 28)), some (.ref (gad Γ land1)), some (.int f2), some (.int p3), some (.int s)] [] m4 3) (fun g9 x hx8 hI8 hO8 => ?_) _ _ e6
    show GX Γ LAY 0 0 [some (.ref (gad Γ 28)), some (.ref (gad Γ land1)), some (.int f2), some (.int p3), some (.int g9)] [] m4 3
    dsimp only [Numbering_canHave_s1] at hx8
    obtain ⟨c10, e11, h12⟩ := ob hx8
    have hc13 : true = c10 → GX Γ LAY 0 0 [some (.ref (gad Γ 28)), some (.ref (gad Γ land1)), some (.int f2), some (.int p3), some (.int g9)] [] m4 19 := by
      intro q
      have h14 := ifT q.symm h12
      obtain ⟨c15, e16, h17⟩ := ob h14
      have hc18 : true = c15 → GX Γ LAY 0 0 [some (.ref (gad Γ 28)), some (.ref (gad Γ land1)), some (.int f2), some (.int p3), some (.int g9)] [] m4 40 := by
        intro q
        have h19 := ifT q.symm h17
        refine GX_iconst hC (bI false) dX5_canHave_40 rfl ?_
        exact GX_zretR hC false hR dX5_canHave_41 (hR8 _ (hO8 _ (oi h19).symm))
      have hc20 : false = c15 → GX Γ LAY 0 0 [some (.ref (gad Γ 28)), some (.ref (gad Γ land1)), some (.int f2), some (.int p3), some (.int g9)] [] m4 42 := by
        intro q
        have h21 := ifF q.symm h17
        obtain ⟨i22, e23, h24⟩ := ob h21
        refine GX_iinc hC i22 [some (.ref (gad Γ 28)), some (.ref (gad Γ land1)), some (.int f2), some (.int p3), some (.int i22)] dX5_canHave_42 rfl (oi e23) (by decide) rfl rfl ?_
        refine GX_goto hC 3 dX5_canHave_45 (by decide) ?_
        exact hI8 _ (oi h24).symm
      refine GX_aload_n hC dX5_canHave_19 rfl ?_
      refine GX_getR hC fkX5_9 ol_28 rfl dX5_canHave_20 ?_
      refine GX_iload hC dX5_canHave_23 rfl ?_
      obtain ⟨x25, e26, h27⟩ := ob e16
      refine GX_ldA hC e26 al_29 dX5_canHave_25 ?_
      refine GX_iload_n hC dX5_canHave_26 rfl ?_
      refine GX_icmp_ne_N hC 42 dX5_canHave_27 (by decide) (fun q => ?_) (fun q => ?_)
      · skip
        have h28 := ifP q h27
        refine GX_aload_n hC dX5_canHave_30 rfl ?_
        refine GX_iload hC dX5_canHave_31 rfl ?_
        refine GX_iload_n hC dX5_canHave_33 rfl ?_
        obtain ⟨b29, e30, h31⟩ := ob h28
        refine GX_callV_i (st := []) hC (C_Land_bars hp_land1 e30) okX2_bars lkX5_29 (olLand hp_land1) rfl rfl (Nat.le_of_ble_eq_true rfl) (Nat.le_of_ble_eq_true rfl) hk rfl (Nat.le_of_ble_eq_true rfl) dX5_canHave_34 ?_
        refine GX_ifb_eq hC 42 dX5_canHave_37 (by decide) (fun q => ?_) (fun q => ?_)
        · skip
          exact hc18 (cbT q h31)
        · skip
          exact hc20 (cbF q h31)
      · skip
        have h32 := ifN q h27
        exact hc20 (oi h32)
    have hc33 : false = c10 → GX Γ LAY 0 0 [some (.ref (gad Γ 28)), some (.ref (gad Γ land1)), some (.int f2), some (.int p3), some (.int g9)] [] m4 48 := by
      intro q
      have h34 := ifF q.symm h12
      exact GX.le (hJ8 (hO8 _ (oi h34).symm)) ⟨rfl, ⟨rfl, ⟨rfl, ⟨rfl, trivial⟩⟩⟩⟩
    refine GX_iload hC dX5_canHave_3 rfl ?_
    refine GX_iload_n hC dX5_canHave_5 rfl ?_
    refine GX_icmp_ge_N hC 48 dX5_canHave_6 (by decide) (fun q => ?_) (fun q => ?_)
    · skip
      have h35 := ifP q e11
      refine GX_iload hC dX5_canHave_9 rfl ?_
      refine GX_aload_n hC dX5_canHave_11 rfl ?_
      refine GX_getR hC fkX5_9 ol_28 rfl dX5_canHave_12 ?_
      refine GX_alen hC 6 al_29 (by decide) rfl dX5_canHave_15 ?_
      refine GX_icmp_ge_N hC 48 dX5_canHave_16 (by decide) (fun q => ?_) (fun q => ?_)
      · skip
        exact hc13 (cdT q h35)
      · skip
        exact hc33 (cdF q h35)
    · skip
      have h36 := ifN q e11
      exact hc33 (oi h36)
  intro q37
  subst q37
  have h7 := seL h7
  refine GX_iconst hC (bI true) dX5_canHave_48 rfl ?_
  exact GX_zretR hC true hR dX5_canHave_49 (oi h7)
set_option maxRecDepth 100000 in
set_option maxHeartbeats 4000000 in
theorem C_Numbering_numberFrom {l : Launch} (n_ : Nat) : ∀ {land1 : Nat} {f2 : Int32} {people3 : Int32} {m4 : MI} {r0 : Bool} {mr : MI} (hp_land1 : isLand land1) (hf : Numbering_numberFrom n_ land1 f2 people3 m4 = some (r0, mr)), Cn l yX5_numberFrom cX5_numberFrom 5 (some .boolean) (3 + n_) LAY (fun ad => [.ref (ad 28), .ref (ad land1), .int f2, .int people3]) m4 (fun _ => some (.int (bI r0))) mr := by
  induction n_ with
  | zero =>
    intros
    rename_i hf
    simp [Numbering_numberFrom] at hf
  | succ n_ ih_ =>
    intro land1 f2 people3 m4 r0 mr hp_land1 hf
    unfold Numbering_numberFrom at hf
    refine Cn.of (fun ad => [some (.ref (ad 28)), some (.ref (ad land1)), some (.int f2), some (.int people3), none]) (by decide +kernel) (fun _ => rfl) (fun _ => Nat.le_of_ble_eq_true rfl) (fun Γ hl hC hR hk => ?_)
    subst hl
    replace hC : CX Γ cX5_numberFrom RX5 LAY (3 + (n_ + 1)) 5 := hC
    obtain ⟨c5, e6, h7⟩ := ob hf
    have hc8 : true = c5 → GX Γ LAY 0 0 [some (.ref (gad Γ 28)), some (.ref (gad Γ land1)), some (.int f2), some (.int people3), none] [] m4 18 := by
      intro q
      have h9 := ifT q.symm h7
      refine GX_iconst hC (bI true) dX5_numberFrom_18 rfl ?_
      exact GX_zretW hC true hR dX5_numberFrom_19 (oi h9)
    have hc10 : false = c5 → GX Γ LAY 0 0 [some (.ref (gad Γ 28)), some (.ref (gad Γ land1)), some (.int f2), some (.int people3), none] [] m4 20 := by
      intro q
      have h11 := ifF q.symm h7
      refine GX_iconst hC 0 dX5_numberFrom_20 rfl ?_
      refine GX_istore hC [some (.ref (gad Γ 28)), some (.ref (gad Γ land1)), some (.int f2), some (.int people3), some (.int 0)] dX5_numberFrom_21 (by decide) rfl rfl ?_
      obtain ⟨o12, e13, h14⟩ := ob h11
      have hR15 : ∀ res : Bool × MI, Sum.inr res = o12 → res = (r0, mr) := by
        intro res q
        subst q
        have h14 := seR h14
        exact (oi h14)
      suffices hJ15 : ∀ (m18 : MI), Sum.inl m18 = o12 → GX Γ LAY 0 0 [some (.ref (gad Γ 28)), some (.ref (gad Γ land1)), some (.int f2), some (.int people3), none] [] m18 68 by
        refine lp_walk (P := fun s => GX Γ LAY 0 0 [some (.ref (gad Γ 28)), some (.ref (gad Γ land1)), some (.int f2), some (.int people3), some (.int s.1)] [] s.2 23) (fun s x hx15 hI15 hO15 => ?_) _ _ e13
        obtain ⟨p16, m17⟩ := s
        show GX Γ LAY 0 0 [some (.ref (gad Γ 28)), some (.ref (gad Γ land1)), some (.int f2), some (.int people3), some (.int p16)] [] m17 23
        dsimp only [Numbering_numberFrom_s1] at hx15
        refine GX_iload hC dX5_numberFrom_23 rfl ?_
        refine GX_iload_n hC dX5_numberFrom_25 rfl ?_
        refine GX_icmp_ge_N hC 68 dX5_numberFrom_26 (by decide) (fun q => ?_) (fun q => ?_)
        · skip
          have h19 := ifP q hx15
          obtain ⟨o20, e21, h22⟩ := ob h19
          have hR24 : ∀ res : Bool × MI, Sum.inr res = o20 → res = (r0, mr) := by
            intro res q
            subst q
            have h22 := seR h22
            exact (hR15 _ (hO15 _ (oi h22).symm))
          suffices hJ24 : ∀ (m23 : MI), Sum.inl m23 = o20 → GX Γ LAY 0 0 [some (.ref (gad Γ 28)), some (.ref (gad Γ land1)), some (.int f2), some (.int people3), some (.int p16)] [] m23 62 by
            refine GX_aload_n hC dX5_numberFrom_29 rfl ?_
            refine GX_aload_n hC dX5_numberFrom_30 rfl ?_
            refine GX_iload_n hC dX5_numberFrom_31 rfl ?_
            refine GX_iload hC dX5_numberFrom_32 rfl ?_
            obtain ⟨b25, e26, h27⟩ := ob e21
            refine GX_callV_i (st := []) hC (C_Numbering_canHave hp_land1 e26) okX5_canHave lkX5_25 ol_28 rfl rfl (by omega) (Nat.le_of_ble_eq_true rfl) hk rfl (Nat.le_of_ble_eq_true rfl) dX5_numberFrom_34 ?_
            refine GX_ifb_eq hC 62 dX5_numberFrom_37 (by decide) (fun q => ?_) (fun q => ?_)
            · skip
              have h28 := ifT q h27
              refine GX_aload_n hC dX5_numberFrom_40 rfl ?_
              refine GX_getR hC fkX5_9 ol_28 rfl dX5_numberFrom_41 ?_
              refine GX_iload_n hC dX5_numberFrom_44 rfl ?_
              refine GX_iload hC dX5_numberFrom_45 rfl ?_
              obtain ⟨m29, e30, h31⟩ := ob h28
              refine GX_stA hC e30 al_29 dX5_numberFrom_47 ?_
              refine GX_aload_n hC dX5_numberFrom_48 rfl ?_
              refine GX_aload_n hC dX5_numberFrom_49 rfl ?_
              refine GX_iload_n hC dX5_numberFrom_50 rfl ?_
              refine GX_iconst hC 1 dX5_numberFrom_51 rfl ?_
              refine GX_iadd hC dX5_numberFrom_52 ?_
              refine GX_iload_n hC dX5_numberFrom_53 rfl ?_
              obtain ⟨⟨b32, m33⟩, e34, h35⟩ := ob h31
              refine GX_callS_i (st := []) hC (ih_ hp_land1 e34) okX5_numberFrom lkX5_15 rfl (by omega) (Nat.le_of_ble_eq_true rfl) hk rfl (Nat.le_of_ble_eq_true rfl) dX5_numberFrom_54 ?_
              refine GX_ifb_eq hC 62 dX5_numberFrom_57 (by decide) (fun q => ?_) (fun q => ?_)
              · skip
                have h36 := ifT q h35
                refine GX_iconst hC (bI true) dX5_numberFrom_60 rfl ?_
                exact GX_zretW hC true hR dX5_numberFrom_61 (hR24 _ (oi h36))
              · skip
                have h37 := ifF q h35
                exact (hJ24 _ (oi h37))
            · skip
              have h38 := ifF q h27
              exact (hJ24 _ (oi h38))
          intro m23 q39
          subst q39
          have h22 := seL h22
          obtain ⟨i40, e41, h42⟩ := ob h22
          refine GX_iinc hC i40 [some (.ref (gad Γ 28)), some (.ref (gad Γ land1)), some (.int f2), some (.int people3), some (.int i40)] dX5_numberFrom_62 rfl (oi e41) (by decide) rfl rfl ?_
          refine GX_goto hC 23 dX5_numberFrom_65 (by decide) ?_
          exact hI15 _ (oi h42).symm
        · skip
          have h44 := ifN q hx15
          exact GX.le (hJ15 _ (hO15 _ (oi h44).symm)) ⟨rfl, ⟨rfl, ⟨rfl, ⟨rfl, trivial⟩⟩⟩⟩
      intro m18 q45
      subst q45
      have h14 := seL h14
      refine GX_iconst hC (bI false) dX5_numberFrom_68 rfl ?_
      exact GX_zretW hC false hR dX5_numberFrom_69 (oi h14)
    refine GX_iload_n hC dX5_numberFrom_0 rfl ?_
    refine GX_if_lt_P hC 18 dX5_numberFrom_1 (by decide) (fun q => ?_) (fun q => ?_)
    · skip
      have h47 := ifP q e6
      exact hc8 (oi h47)
    · skip
      have h48 := ifN q e6
      refine GX_iload_n hC dX5_numberFrom_4 rfl ?_
      refine GX_bipush hC 6 dX5_numberFrom_5 rfl ?_
      refine GX_icmp_ge_P hC 18 dX5_numberFrom_7 (by decide) (fun q => ?_) (fun q => ?_)
      · skip
        have h49 := ifP q h48
        exact hc8 (oi h49)
      · skip
        have h50 := ifN q h48
        refine GX_iload_n hC dX5_numberFrom_10 rfl ?_
        refine GX_aload_n hC dX5_numberFrom_11 rfl ?_
        refine GX_getI hC fkX5_19 (olLand hp_land1) rfl dX5_numberFrom_12 ?_
        refine GX_icmp_lt_N hC 20 dX5_numberFrom_15 (by decide) (fun q => ?_) (fun q => ?_)
        · skip
          exact hc8 (cdT q h50)
        · skip
          exact hc10 (cdF q h50)
set_option maxRecDepth 100000 in
set_option maxHeartbeats 4000000 in
theorem C_Numbering_fewestFor {l : Launch} {land1 : Nat} {m2 : MI} {r0 : Int32} {mr : MI} (hp_land1 : isLand land1) (hf : Numbering_fewestFor land1 m2 = some (r0, mr)) : Cn l yX5_fewestFor cX5_fewestFor 3 (some .int) 24 LAY (fun ad => .ref (ad 28) :: [.ref (ad land1)]) m2 (fun _ => some (.int r0)) mr := by
  refine Cn.of (fun ad => [some (.ref (ad 28)), some (.ref (ad land1)), none]) (by decide +kernel) (fun _ => rfl) (fun _ => Nat.le_of_ble_eq_true rfl) (fun Γ hl hC hR hk => ?_)
  subst hl
  replace hC : CX Γ cX5_fewestFor RX5 LAY 24 3 := hC
  dsimp only [Numbering_fewestFor] at hf
  refine GX_iconst hC 0 dX5_fewestFor_0 rfl ?_
  refine GX_istore_n hC [some (.ref (gad Γ 28)), some (.ref (gad Γ land1)), some (.int 0)] dX5_fewestFor_1 (by decide) rfl rfl ?_
  obtain ⟨o3, e4, h5⟩ := ob hf
  have hR6 : ∀ res : Int32 × MI, Sum.inr res = o3 → res = (r0, mr) := by
    intro res q
    subst q
    have h5 := seR h5
    exact (oi h5)
  suffices hJ6 : ∀ (m9 : MI), Sum.inl m9 = o3 → GX Γ LAY 0 0 [some (.ref (gad Γ 28)), some (.ref (gad Γ land1)), none] [] m9 26 by
    refine lp_walk (P := fun s => GX Γ LAY 0 0 [some (.ref (gad Γ 28)), some (.ref (gad Γ land1)), some (.int s.1)] [] s.2 2) (fun s x hx6 hI6 hO6 => ?_) _ _ e4
    obtain ⟨people7, m8⟩ := s
    show GX Γ LAY 0 0 [some (.ref (gad Γ 28)), some (.ref (gad Γ land1)), some (.int people7)] [] m8 2
    dsimp only [Numbering_fewestFor_s1] at hx6
    refine GX_iload_n hC dX5_fewestFor_2 rfl ?_
    refine GX_bipush hC 6 dX5_fewestFor_3 rfl ?_
    refine GX_icmp_ge_N hC 26 dX5_fewestFor_5 (by decide) (fun q => ?_) (fun q => ?_)
    · skip
      have h10 := ifP q hx6
      refine GX_aload_n hC dX5_fewestFor_8 rfl ?_
      refine GX_aload_n hC dX5_fewestFor_9 rfl ?_
      refine GX_iconst hC 0 dX5_fewestFor_10 rfl ?_
      refine GX_iload_n hC dX5_fewestFor_11 rfl ?_
      obtain ⟨⟨b11, m12⟩, e13, h14⟩ := ob h10
      refine GX_callS_i (st := []) hC (C_Numbering_numberFrom 20 hp_land1 e13) okX5_numberFrom lkX5_15 rfl (Nat.le_of_ble_eq_true rfl) (Nat.le_of_ble_eq_true rfl) hk rfl (Nat.le_of_ble_eq_true rfl) dX5_fewestFor_12 ?_
      refine GX_ifb_eq hC 20 dX5_fewestFor_15 (by decide) (fun q => ?_) (fun q => ?_)
      · skip
        have h15 := ifT q h14
        refine GX_iload_n hC dX5_fewestFor_18 rfl ?_
        exact GX_iretW hC hR dX5_fewestFor_19 (hR6 _ (hO6 _ (oi h15).symm))
      · skip
        have h16 := ifF q h14
        obtain ⟨i17, e18, h19⟩ := ob h16
        refine GX_iinc hC i17 [some (.ref (gad Γ 28)), some (.ref (gad Γ land1)), some (.int i17)] dX5_fewestFor_20 rfl (oi e18) (by decide) rfl rfl ?_
        refine GX_goto hC 2 dX5_fewestFor_23 (by decide) ?_
        exact hI6 _ (oi h19).symm
    · skip
      have h20 := ifN q hx6
      exact GX.le (hJ6 _ (hO6 _ (oi h20).symm)) ⟨rfl, ⟨rfl, trivial⟩⟩
  intro m9 q21
  subst q21
  have h5 := seL h5
  refine GX_aload_n hC dX5_fewestFor_26 rfl ?_
  refine GX_aload_n hC dX5_fewestFor_27 rfl ?_
  refine GX_iconst hC 0 dX5_fewestFor_28 rfl ?_
  refine GX_bipush hC 6 dX5_fewestFor_29 rfl ?_
  obtain ⟨⟨b22, m23⟩, e24, h25⟩ := ob h5
  refine GX_callS_i (st := []) hC (C_Numbering_numberFrom 20 hp_land1 e24) okX5_numberFrom lkX5_15 rfl (Nat.le_of_ble_eq_true rfl) (Nat.le_of_ble_eq_true rfl) hk rfl (Nat.le_of_ble_eq_true rfl) dX5_fewestFor_31 ?_
  refine GX_pop hC dX5_fewestFor_34 rfl ?_
  refine GX_bipush hC 6 dX5_fewestFor_35 rfl ?_
  exact GX_iretW hC hR dX5_fewestFor_37 (oi h25)
set_option maxRecDepth 100000 in
set_option maxHeartbeats 4000000 in
theorem C_Numbering_numberOf {l : Launch} {f1 : Int32} {m2 : MI} {r0 : Int32}  (hf : Numbering_numberOf f1 m2 = some r0) : Cn l yX5_numberOf cX5_numberOf 2 (some .int) 0 LAY (fun ad => .ref (ad 28) :: [.int f1]) m2 (fun _ => some (.int r0)) m2 := by
  refine Cn.of (fun ad => [some (.ref (ad 28)), some (.int f1)]) (by decide +kernel) (fun _ => rfl) (fun _ => Nat.le_of_ble_eq_true rfl) (fun Γ hl hC hR hk => ?_)
  subst hl
  replace hC : CX Γ cX5_numberOf RX5 LAY 0 2 := hC
  dsimp only [Numbering_numberOf] at hf
  obtain ⟨x3, e4, h5⟩ := ob hf
  suffices hJ6 : GX Γ LAY 0 0 [some (.ref (gad Γ 28)), some (.int f1)] [.int x3] m2 23 by
    obtain ⟨c7, e8, h9⟩ := ob e4
    have hc10 : true = c7 → GX Γ LAY 0 0 [some (.ref (gad Γ 28)), some (.int f1)] [] m2 13 := by
      intro q
      have h11 := ifT q.symm h9
      refine GX_aload_n hC dX5_numberOf_13 rfl ?_
      refine GX_getR hC fkX5_9 ol_28 rfl dX5_numberOf_14 ?_
      refine GX_iload_n hC dX5_numberOf_17 rfl ?_
      obtain ⟨x12, e13, h14⟩ := ob h11
      refine GX_ldA hC e13 al_29 dX5_numberOf_18 ?_
      refine GX_goto hC 23 dX5_numberOf_19 (by decide) ?_
      exact GX_nm (oi h14) hJ6
    have hc15 : false = c7 → GX Γ LAY 0 0 [some (.ref (gad Γ 28)), some (.int f1)] [] m2 22 := by
      intro q
      have h16 := ifF q.symm h9
      refine GX_iconst hC 0 dX5_numberOf_22 rfl ?_
      exact GX_nm (oi h16) hJ6
    refine GX_iload_n hC dX5_numberOf_0 rfl ?_
    refine GX_if_lt_N hC 22 dX5_numberOf_1 (by decide) (fun q => ?_) (fun q => ?_)
    · skip
      have h17 := ifP q e8
      refine GX_iload_n hC dX5_numberOf_4 rfl ?_
      refine GX_aload_n hC dX5_numberOf_5 rfl ?_
      refine GX_getR hC fkX5_9 ol_28 rfl dX5_numberOf_6 ?_
      refine GX_alen hC 6 al_29 (by decide) rfl dX5_numberOf_9 ?_
      refine GX_icmp_ge_N hC 22 dX5_numberOf_10 (by decide) (fun q => ?_) (fun q => ?_)
      · skip
        exact hc10 (cdT q h17)
      · skip
        exact hc15 (cdF q h17)
    · skip
      have h18 := ifN q e8
      exact hc15 (oi h18)
  exact GX_iretR hC hR dX5_numberOf_23 (oi h5)
