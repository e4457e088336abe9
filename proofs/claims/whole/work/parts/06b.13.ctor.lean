set_option maxRecDepth 100000 in
set_option maxHeartbeats 4000000 in
theorem K_Shelf_59 {l : Launch} : CnI l yX8_init cX8_init 1 2 2 105 LK118 LK122 59 := by
  refine CnI.of (by decide +kernel) rfl (by decide) (fun Γ hl hC hR hkk hal hin hao => ?_)
  subst hl
  have E0 : ∀ i, i < 60 → gad Γ i = gad Γ i := fun _ _ => rfl
  replace hR : RXI Γ 60 2 105 (gad Γ) LK122 := hR
  replace hC : CX Γ cX8_init RX8 LK118 2 1 := hC
  show GX Γ LK118 _ _ [some (.ref (gad Γ 59))] [] μZ _
  refine GX_aload_n hC dX8_init_0 rfl ?_
  refine GX_oinit hC oiX8_3 (by decide) (Nat.le_of_ble_eq_true rfl) dX8_init_1 ?_
  refine GX_aload_n hC dX8_init_4 rfl ?_
  refine GX_iconst hC 0 dX8_init_5 rfl ?_
  refine GX_putI (a := 59) (L := LK118) (μ := μZ) (x := 0) hC fkX8_9 ftX8_0 (show LK118[59]? = some (.inl (8, [none, none, none, some none, some none])) by decide +kernel) rfl dX8_init_6 ?_
  rw [show ∀ z w : Nat, si μZ z w 0 = μZ from si_Z]
  refine GX_aload_n hC dX8_init_9 rfl ?_
  refine GX_iconst hC 0 dX8_init_10 rfl ?_
  refine GX_putI (a := 59) (L := LK118) (μ := μZ) (x := 0) hC fkX8_15 ftX8_1 (show LK118[59]? = some (.inl (8, [none, none, none, some none, some none])) by decide +kernel) rfl dX8_init_11 ?_
  rw [show ∀ z w : Nat, si μZ z w 0 = μZ from si_Z]
  refine GX_aload_n hC dX8_init_14 rfl ?_
  refine GX_iconst hC 0 dX8_init_15 rfl ?_
  refine GX_putI (a := 59) (L := LK118) (μ := μZ) (x := 0) hC fkX8_18 ftX8_2 (show LK118[59]? = some (.inl (8, [none, none, none, some none, some none])) by decide +kernel) rfl dX8_init_16 ?_
  rw [show ∀ z w : Nat, si μZ z w 0 = μZ from si_Z]
  refine GX_aload_n hC dX8_init_19 rfl ?_
  refine GX_newO (ci := 4) hC [none, none, none, none, none] hal clX8_21 inX4 iiX4 uwX4 tyX4_ok rfl ⟨rfl, by decide +kernel⟩ (by decide +kernel) (hkk _ _ (by decide) (by decide)) dX8_init_20 (fun ad => [some (.ref (ad 59))]) (fun ad => [.ref (ad 59)]) rfl rfl (fun a b h => ⟨by first | rfl | simp only [h 59 (by decide +kernel)], by first | rfl | simp only [h 59 (by decide +kernel)]⟩) (fun ad1 e1 hC => ?_)
  have E1 : ∀ i, i < 60 → ad1 i = gad Γ i := fun i hi => (e1 i (Nat.lt_of_lt_of_le hi (by decide +kernel))).trans (E0 i hi)
  replace hC : CX (nG Γ ad1) cX8_init RX8 LK119 2 1 := hC
  show GX (nG Γ ad1) LK119 _ _ [some (.ref (ad1 59))] [.ref (ad1 60), .ref (ad1 59)] μZ _
  refine GX_dup hC dX8_init_23 rfl ?_
  refine GX_callI (t := 60) hC K_Move_60 okiX4 ckX8_23 (alOK_nG hal) hao (by decide) (by decide) (kX_nG (hkk _ _ (by decide) (by decide))) (Nat.le_of_ble_eq_true rfl) dX8_init_24 (fun ad => [some (.ref (ad 59))]) (fun ad => [.ref (ad 60), .ref (ad 59)]) rfl rfl (fun a b h => ⟨by first | rfl | simp only [h 59 (by decide +kernel), h 60 (by decide +kernel)], by first | rfl | simp only [h 59 (by decide +kernel), h 60 (by decide +kernel)]⟩) (fun ad2 e2 hC => ?_)
  rw [nG_nG] at hC ⊢
  have E2 : ∀ i, i < 60 → ad2 i = gad Γ i := fun i hi => (e2 i (Nat.lt_of_lt_of_le hi (by decide +kernel))).trans (E1 i hi)
  replace hC : CX (nG Γ ad2) cX8_init RX8 LK119 2 1 := hC
  show GX (nG Γ ad2) LK119 _ _ [some (.ref (ad2 59))] [.ref (ad2 60), .ref (ad2 59)] μZ _
  refine GX_putR (a := 59) (b := 60) (L := LK119) hC fkX8_24 (inInit_nG hin) (show vwCl[8]? = some (RX8, TX8, 5) from rfl) rfl rfl (tyX8_ok 3 (by decide)) (fun _ => rfl) (fun _ => rfl) (show LK119[59]? = some (.inl (8, [none, none, none, some none, some none])) by decide +kernel) (by decide) dX8_init_27 (fun hC => ?_)
  replace hC : CX (nG Γ ad2) cX8_init RX8 LK120 2 1 := hC
  show GX (nG Γ ad2) LK120 _ _ [some (.ref (ad2 59))] [] μZ _
  refine GX_aload_n hC dX8_init_30 rfl ?_
  refine GX_bipush hC 100 dX8_init_31 rfl ?_
  refine GX_newI hC 100 (alOK_nG hal) ac_int (by decide) rfl (by decide) (by decide +kernel) (kX_nG (hkk _ _ (by decide) (by decide))) dX8_init_33 (fun ad => [some (.ref (ad 59))]) (fun ad => [.ref (ad 59)]) rfl rfl (fun a b h => ⟨by first | rfl | simp only [h 59 (by decide +kernel)], by first | rfl | simp only [h 59 (by decide +kernel)]⟩) (fun ad3 e3 hC => ?_)
  rw [nG_nG] at hC ⊢
  have E3 : ∀ i, i < 60 → ad3 i = gad Γ i := fun i hi => (e3 i (Nat.lt_of_lt_of_le hi (by decide +kernel))).trans (E2 i hi)
  replace hC : CX (nG Γ ad3) cX8_init RX8 LK121 2 1 := hC
  show GX (nG Γ ad3) LK121 _ _ [some (.ref (ad3 59))] [.ref (ad3 61), .ref (ad3 59)] μZ _
  refine GX_putR (a := 59) (b := 61) (L := LK121) hC fkX8_28 (inInit_nG hin) (show vwCl[8]? = some (RX8, TX8, 5) from rfl) rfl rfl (tyX8_ok 4 (by decide)) (fun _ => rfl) (fun _ => rfl) (show LK121[59]? = some (.inl (8, [none, none, none, some (some 60), some none])) by decide +kernel) (by decide) dX8_init_35 (fun hC => ?_)
  replace hC : CX (nG Γ ad3) cX8_init RX8 LK122 2 1 := hC
  show GX (nG Γ ad3) LK122 _ _ [some (.ref (ad3 59))] [] μZ _
  exact GX_vretI hC (RXI_nG hR) E3 dX8_init_38
set_option maxRecDepth 100000 in
set_option maxHeartbeats 4000000 in
theorem K_NoTwoTouch_0 {l : Launch} : CnI l yX9_init cX9_init 2 3 61 2055 LK1 LK123 0 := by
  refine CnI.of (by decide +kernel) rfl (by decide) (fun Γ hl hC hR hkk hal hin hao => ?_)
  subst hl
  have E0 : ∀ i, i < 1 → gad Γ i = gad Γ i := fun _ _ => rfl
  replace hR : RXI Γ 1 61 2055 (gad Γ) LK123 := hR
  replace hC : CX Γ cX9_init RX9 LK1 3 2 := hC
  show GX Γ LK1 _ _ [some (.ref (gad Γ 0)), none] [] μZ _
  refine GX_aload_n hC dX9_init_0 rfl ?_
  refine GX_oinit hC oiX9_1 (by decide) (Nat.le_of_ble_eq_true rfl) dX9_init_1 ?_
  refine GX_aload_n hC dX9_init_4 rfl ?_
  refine GX_newO (ci := 2) hC [none, none, none, none, some none, some none, some none, some none, some none, some none] hal clX9_7 inX2 iiX2 uwX2 tyX2_ok rfl ⟨rfl, by decide +kernel⟩ (by decide +kernel) (hkk _ _ (by decide) (by decide)) dX9_init_5 (fun ad => [some (.ref (ad 0)), none]) (fun ad => [.ref (ad 0)]) rfl rfl (fun a b h => ⟨by first | rfl | simp only [h 0 (by decide +kernel)], by first | rfl | simp only [h 0 (by decide +kernel)]⟩) (fun ad1 e1 hC => ?_)
  have E1 : ∀ i, i < 1 → ad1 i = gad Γ i := fun i hi => (e1 i (Nat.lt_of_lt_of_le hi (by decide +kernel))).trans (E0 i hi)
  replace hC : CX (nG Γ ad1) cX9_init RX9 LK2 3 2 := hC
  show GX (nG Γ ad1) LK2 _ _ [some (.ref (ad1 0)), none] [.ref (ad1 1), .ref (ad1 0)] μZ _
  refine GX_dup hC dX9_init_8 rfl ?_
  refine GX_callI (t := 1) hC K_Land_1 okiX2 ckX9_9 (alOK_nG hal) hao (by decide) (by decide) (kX_nG (hkk _ _ (by decide) (by decide))) (Nat.le_of_ble_eq_true rfl) dX9_init_9 (fun ad => [some (.ref (ad 0)), none]) (fun ad => [.ref (ad 1), .ref (ad 0)]) rfl rfl (fun a b h => ⟨by first | rfl | simp only [h 0 (by decide +kernel), h 1 (by decide +kernel)], by first | rfl | simp only [h 0 (by decide +kernel), h 1 (by decide +kernel)]⟩) (fun ad2 e2 hC => ?_)
  rw [nG_nG] at hC ⊢
  have E2 : ∀ i, i < 1 → ad2 i = gad Γ i := fun i hi => (e2 i (Nat.lt_of_lt_of_le hi (by decide +kernel))).trans (E1 i hi)
  replace hC : CX (nG Γ ad2) cX9_init RX9 LK14 3 2 := hC
  show GX (nG Γ ad2) LK14 _ _ [some (.ref (ad2 0)), none] [.ref (ad2 1), .ref (ad2 0)] μZ _
  refine GX_putR (a := 0) (b := 1) (L := LK14) hC fkX9_10 (inInit_nG hin) (show vwCl[9]? = some (RX9, TX9, 11) from rfl) rfl rfl (tyX9_ok 0 (by decide)) (fun _ => rfl) (fun _ => rfl) (show LK14[0]? = some (.inl (9, [some none, some none, some none, none, some none, some none, some none, some none, some none, some none, some none])) by decide +kernel) (by decide) dX9_init_12 (fun hC => ?_)
  replace hC : CX (nG Γ ad2) cX9_init RX9 LK15 3 2 := hC
  show GX (nG Γ ad2) LK15 _ _ [some (.ref (ad2 0)), none] [] μZ _
  refine GX_aload_n hC dX9_init_15 rfl ?_
  refine GX_newO (ci := 2) hC [none, none, none, none, some none, some none, some none, some none, some none, some none] (alOK_nG hal) clX9_7 inX2 iiX2 uwX2 tyX2_ok rfl ⟨rfl, by decide +kernel⟩ (by decide +kernel) (kX_nG (hkk _ _ (by decide) (by decide))) dX9_init_16 (fun ad => [some (.ref (ad 0)), none]) (fun ad => [.ref (ad 0)]) rfl rfl (fun a b h => ⟨by first | rfl | simp only [h 0 (by decide +kernel)], by first | rfl | simp only [h 0 (by decide +kernel)]⟩) (fun ad3 e3 hC => ?_)
  rw [nG_nG] at hC ⊢
  have E3 : ∀ i, i < 1 → ad3 i = gad Γ i := fun i hi => (e3 i (Nat.lt_of_lt_of_le hi (by decide +kernel))).trans (E2 i hi)
  replace hC : CX (nG Γ ad3) cX9_init RX9 LK16 3 2 := hC
  show GX (nG Γ ad3) LK16 _ _ [some (.ref (ad3 0)), none] [.ref (ad3 8), .ref (ad3 0)] μZ _
  refine GX_dup hC dX9_init_19 rfl ?_
  refine GX_callI (t := 8) hC K_Land_8 okiX2 ckX9_9 (alOK_nG hal) hao (by decide) (by decide) (kX_nG (hkk _ _ (by decide) (by decide))) (Nat.le_of_ble_eq_true rfl) dX9_init_20 (fun ad => [some (.ref (ad 0)), none]) (fun ad => [.ref (ad 8), .ref (ad 0)]) rfl rfl (fun a b h => ⟨by first | rfl | simp only [h 0 (by decide +kernel), h 8 (by decide +kernel)], by first | rfl | simp only [h 0 (by decide +kernel), h 8 (by decide +kernel)]⟩) (fun ad4 e4 hC => ?_)
  rw [nG_nG] at hC ⊢
  have E4 : ∀ i, i < 1 → ad4 i = gad Γ i := fun i hi => (e4 i (Nat.lt_of_lt_of_le hi (by decide +kernel))).trans (E3 i hi)
  replace hC : CX (nG Γ ad4) cX9_init RX9 LK28 3 2 := hC
  show GX (nG Γ ad4) LK28 _ _ [some (.ref (ad4 0)), none] [.ref (ad4 8), .ref (ad4 0)] μZ _
  refine GX_putR (a := 0) (b := 8) (L := LK28) hC fkX9_16 (inInit_nG hin) (show vwCl[9]? = some (RX9, TX9, 11) from rfl) rfl rfl (tyX9_ok 1 (by decide)) (fun _ => rfl) (fun _ => rfl) (show LK28[0]? = some (.inl (9, [some (some 1), some none, some none, none, some none, some none, some none, some none, some none, some none, some none])) by decide +kernel) (by decide) dX9_init_23 (fun hC => ?_)
  replace hC : CX (nG Γ ad4) cX9_init RX9 LK29 3 2 := hC
  show GX (nG Γ ad4) LK29 _ _ [some (.ref (ad4 0)), none] [] μZ _
  refine GX_aload_n hC dX9_init_26 rfl ?_
  refine GX_newO (ci := 2) hC [none, none, none, none, some none, some none, some none, some none, some none, some none] (alOK_nG hal) clX9_7 inX2 iiX2 uwX2 tyX2_ok rfl ⟨rfl, by decide +kernel⟩ (by decide +kernel) (kX_nG (hkk _ _ (by decide) (by decide))) dX9_init_27 (fun ad => [some (.ref (ad 0)), none]) (fun ad => [.ref (ad 0)]) rfl rfl (fun a b h => ⟨by first | rfl | simp only [h 0 (by decide +kernel)], by first | rfl | simp only [h 0 (by decide +kernel)]⟩) (fun ad5 e5 hC => ?_)
  rw [nG_nG] at hC ⊢
  have E5 : ∀ i, i < 1 → ad5 i = gad Γ i := fun i hi => (e5 i (Nat.lt_of_lt_of_le hi (by decide +kernel))).trans (E4 i hi)
  replace hC : CX (nG Γ ad5) cX9_init RX9 LK30 3 2 := hC
  show GX (nG Γ ad5) LK30 _ _ [some (.ref (ad5 0)), none] [.ref (ad5 15), .ref (ad5 0)] μZ _
  refine GX_dup hC dX9_init_30 rfl ?_
  refine GX_callI (t := 15) hC K_Land_15 okiX2 ckX9_9 (alOK_nG hal) hao (by decide) (by decide) (kX_nG (hkk _ _ (by decide) (by decide))) (Nat.le_of_ble_eq_true rfl) dX9_init_31 (fun ad => [some (.ref (ad 0)), none]) (fun ad => [.ref (ad 15), .ref (ad 0)]) rfl rfl (fun a b h => ⟨by first | rfl | simp only [h 0 (by decide +kernel), h 15 (by decide +kernel)], by first | rfl | simp only [h 0 (by decide +kernel), h 15 (by decide +kernel)]⟩) (fun ad6 e6 hC => ?_)
  rw [nG_nG] at hC ⊢
  have E6 : ∀ i, i < 1 → ad6 i = gad Γ i := fun i hi => (e6 i (Nat.lt_of_lt_of_le hi (by decide +kernel))).trans (E5 i hi)
  replace hC : CX (nG Γ ad6) cX9_init RX9 LK42 3 2 := hC
  show GX (nG Γ ad6) LK42 _ _ [some (.ref (ad6 0)), none] [.ref (ad6 15), .ref (ad6 0)] μZ _
  refine GX_putR (a := 0) (b := 15) (L := LK42) hC fkX9_19 (inInit_nG hin) (show vwCl[9]? = some (RX9, TX9, 11) from rfl) rfl rfl (tyX9_ok 2 (by decide)) (fun _ => rfl) (fun _ => rfl) (show LK42[0]? = some (.inl (9, [some (some 1), some (some 8), some none, none, some none, some none, some none, some none, some none, some none, some none])) by decide +kernel) (by decide) dX9_init_34 (fun hC => ?_)
  replace hC : CX (nG Γ ad6) cX9_init RX9 LK43 3 2 := hC
  show GX (nG Γ ad6) LK43 _ _ [some (.ref (ad6 0)), none] [] μZ _
  refine GX_aload_n hC dX9_init_37 rfl ?_
  refine GX_iconst hC 0 dX9_init_38 rfl ?_
  refine GX_putZ (a := 0) (L := LK43) (μ := μZ) (b := false) hC fkX9_22 ftX9_3 (show LK43[0]? = some (.inl (9, [some (some 1), some (some 8), some (some 15), none, some none, some none, some none, some none, some none, some none, some none])) by decide +kernel) rfl dX9_init_39 ?_
  rw [show ∀ z w : Nat, si μZ z w (bI false) = μZ from si_Z]
  refine GX_aload_n hC dX9_init_42 rfl ?_
  refine GX_bipush hC 8 dX9_init_43 rfl ?_
  refine GX_newQ hC 8 (alOK_nG hal) clX9_26 hao.1 (by decide) rfl (by decide) (by decide +kernel) (kX_nG (hkk _ _ (by decide) (by decide))) dX9_init_45 (fun ad => [some (.ref (ad 0)), none]) (fun ad => [.ref (ad 0)]) rfl rfl (fun a b h => ⟨by first | rfl | simp only [h 0 (by decide +kernel)], by first | rfl | simp only [h 0 (by decide +kernel)]⟩) (fun ad7 e7 hC => ?_)
  rw [nG_nG] at hC ⊢
  have E7 : ∀ i, i < 1 → ad7 i = gad Γ i := fun i hi => (e7 i (Nat.lt_of_lt_of_le hi (by decide +kernel))).trans (E6 i hi)
  replace hC : CX (nG Γ ad7) cX9_init RX9 LK44 3 2 := hC
  show GX (nG Γ ad7) LK44 _ _ [some (.ref (ad7 0)), none] [.ref (ad7 22), .ref (ad7 0)] μZ _
  refine GX_putR (a := 0) (b := 22) (L := LK44) hC fkX9_28 (inInit_nG hin) (show vwCl[9]? = some (RX9, TX9, 11) from rfl) rfl rfl (tyX9_ok 4 (by decide)) (fun _ => rfl) (fun _ => rfl) (show LK44[0]? = some (.inl (9, [some (some 1), some (some 8), some (some 15), none, some none, some none, some none, some none, some none, some none, some none])) by decide +kernel) (by decide) dX9_init_48 (fun hC => ?_)
  replace hC : CX (nG Γ ad7) cX9_init RX9 LK45 3 2 := hC
  show GX (nG Γ ad7) LK45 _ _ [some (.ref (ad7 0)), none] [] μZ _
  refine GX_aload_n hC dX9_init_51 rfl ?_
  refine GX_newO (ci := 3) hC [none, none, none, none, none, none] (alOK_nG hal) clX9_32 inX3 iiX3 uwX3 tyX3_ok rfl ⟨rfl, by decide +kernel⟩ (by decide +kernel) (kX_nG (hkk _ _ (by decide) (by decide))) dX9_init_52 (fun ad => [some (.ref (ad 0)), none]) (fun ad => [.ref (ad 0)]) rfl rfl (fun a b h => ⟨by first | rfl | simp only [h 0 (by decide +kernel)], by first | rfl | simp only [h 0 (by decide +kernel)]⟩) (fun ad8 e8 hC => ?_)
  rw [nG_nG] at hC ⊢
  have E8 : ∀ i, i < 1 → ad8 i = gad Γ i := fun i hi => (e8 i (Nat.lt_of_lt_of_le hi (by decide +kernel))).trans (E7 i hi)
  replace hC : CX (nG Γ ad8) cX9_init RX9 LK46 3 2 := hC
  show GX (nG Γ ad8) LK46 _ _ [some (.ref (ad8 0)), none] [.ref (ad8 23), .ref (ad8 0)] μZ _
  refine GX_dup hC dX9_init_55 rfl ?_
  refine GX_callI (t := 23) hC K_LandReader_23 okiX3 ckX9_34 (alOK_nG hal) hao (by decide) (by decide) (kX_nG (hkk _ _ (by decide) (by decide))) (Nat.le_of_ble_eq_true rfl) dX9_init_56 (fun ad => [some (.ref (ad 0)), none]) (fun ad => [.ref (ad 23), .ref (ad 0)]) rfl rfl (fun a b h => ⟨by first | rfl | simp only [h 0 (by decide +kernel), h 23 (by decide +kernel)], by first | rfl | simp only [h 0 (by decide +kernel), h 23 (by decide +kernel)]⟩) (fun ad9 e9 hC => ?_)
  rw [nG_nG] at hC ⊢
  have E9 : ∀ i, i < 1 → ad9 i = gad Γ i := fun i hi => (e9 i (Nat.lt_of_lt_of_le hi (by decide +kernel))).trans (E8 i hi)
  replace hC : CX (nG Γ ad9) cX9_init RX9 LK46 3 2 := hC
  show GX (nG Γ ad9) LK46 _ _ [some (.ref (ad9 0)), none] [.ref (ad9 23), .ref (ad9 0)] μZ _
  refine GX_putR (a := 0) (b := 23) (L := LK46) hC fkX9_35 (inInit_nG hin) (show vwCl[9]? = some (RX9, TX9, 11) from rfl) rfl rfl (tyX9_ok 5 (by decide)) (fun _ => rfl) (fun _ => rfl) (show LK46[0]? = some (.inl (9, [some (some 1), some (some 8), some (some 15), none, some (some 22), some none, some none, some none, some none, some none, some none])) by decide +kernel) (by decide) dX9_init_59 (fun hC => ?_)
  replace hC : CX (nG Γ ad9) cX9_init RX9 LK47 3 2 := hC
  show GX (nG Γ ad9) LK47 _ _ [some (.ref (ad9 0)), none] [] μZ _
  refine GX_aload_n hC dX9_init_62 rfl ?_
  refine GX_newO (ci := 7) hC [none, none, some none, some none, some none] (alOK_nG hal) clX9_39 inX7 iiX7 uwX7 tyX7_ok rfl ⟨rfl, by decide +kernel⟩ (by decide +kernel) (kX_nG (hkk _ _ (by decide) (by decide))) dX9_init_63 (fun ad => [some (.ref (ad 0)), none]) (fun ad => [.ref (ad 0)]) rfl rfl (fun a b h => ⟨by first | rfl | simp only [h 0 (by decide +kernel)], by first | rfl | simp only [h 0 (by decide +kernel)]⟩) (fun ad10 e10 hC => ?_)
  rw [nG_nG] at hC ⊢
  have E10 : ∀ i, i < 1 → ad10 i = gad Γ i := fun i hi => (e10 i (Nat.lt_of_lt_of_le hi (by decide +kernel))).trans (E9 i hi)
  replace hC : CX (nG Γ ad10) cX9_init RX9 LK48 3 2 := hC
  show GX (nG Γ ad10) LK48 _ _ [some (.ref (ad10 0)), none] [.ref (ad10 24), .ref (ad10 0)] μZ _
  refine GX_dup hC dX9_init_66 rfl ?_
  refine GX_callI (t := 24) hC K_Sharing_24 okiX7 ckX9_41 (alOK_nG hal) hao (by decide) (by decide) (kX_nG (hkk _ _ (by decide) (by decide))) (Nat.le_of_ble_eq_true rfl) dX9_init_67 (fun ad => [some (.ref (ad 0)), none]) (fun ad => [.ref (ad 24), .ref (ad 0)]) rfl rfl (fun a b h => ⟨by first | rfl | simp only [h 0 (by decide +kernel), h 24 (by decide +kernel)], by first | rfl | simp only [h 0 (by decide +kernel), h 24 (by decide +kernel)]⟩) (fun ad11 e11 hC => ?_)
  rw [nG_nG] at hC ⊢
  have E11 : ∀ i, i < 1 → ad11 i = gad Γ i := fun i hi => (e11 i (Nat.lt_of_lt_of_le hi (by decide +kernel))).trans (E10 i hi)
  replace hC : CX (nG Γ ad11) cX9_init RX9 LK54 3 2 := hC
  show GX (nG Γ ad11) LK54 _ _ [some (.ref (ad11 0)), none] [.ref (ad11 24), .ref (ad11 0)] μZ _
  refine GX_putR (a := 0) (b := 24) (L := LK54) hC fkX9_42 (inInit_nG hin) (show vwCl[9]? = some (RX9, TX9, 11) from rfl) rfl rfl (tyX9_ok 6 (by decide)) (fun _ => rfl) (fun _ => rfl) (show LK54[0]? = some (.inl (9, [some (some 1), some (some 8), some (some 15), none, some (some 22), some (some 23), some none, some none, some none, some none, some none])) by decide +kernel) (by decide) dX9_init_70 (fun hC => ?_)
  replace hC : CX (nG Γ ad11) cX9_init RX9 LK55 3 2 := hC
  show GX (nG Γ ad11) LK55 _ _ [some (.ref (ad11 0)), none] [] μZ _
  refine GX_aload_n hC dX9_init_73 rfl ?_
  refine GX_newO (ci := 5) hC [some none] (alOK_nG hal) clX9_46 inX5 iiX5 uwX5 tyX5_ok rfl ⟨rfl, by decide +kernel⟩ (by decide +kernel) (kX_nG (hkk _ _ (by decide) (by decide))) dX9_init_74 (fun ad => [some (.ref (ad 0)), none]) (fun ad => [.ref (ad 0)]) rfl rfl (fun a b h => ⟨by first | rfl | simp only [h 0 (by decide +kernel)], by first | rfl | simp only [h 0 (by decide +kernel)]⟩) (fun ad12 e12 hC => ?_)
  rw [nG_nG] at hC ⊢
  have E12 : ∀ i, i < 1 → ad12 i = gad Γ i := fun i hi => (e12 i (Nat.lt_of_lt_of_le hi (by decide +kernel))).trans (E11 i hi)
  replace hC : CX (nG Γ ad12) cX9_init RX9 LK56 3 2 := hC
  show GX (nG Γ ad12) LK56 _ _ [some (.ref (ad12 0)), none] [.ref (ad12 28), .ref (ad12 0)] μZ _
  refine GX_dup hC dX9_init_77 rfl ?_
  refine GX_callI (t := 28) hC K_Numbering_28 okiX5 ckX9_48 (alOK_nG hal) hao (by decide) (by decide) (kX_nG (hkk _ _ (by decide) (by decide))) (Nat.le_of_ble_eq_true rfl) dX9_init_78 (fun ad => [some (.ref (ad 0)), none]) (fun ad => [.ref (ad 28), .ref (ad 0)]) rfl rfl (fun a b h => ⟨by first | rfl | simp only [h 0 (by decide +kernel), h 28 (by decide +kernel)], by first | rfl | simp only [h 0 (by decide +kernel), h 28 (by decide +kernel)]⟩) (fun ad13 e13 hC => ?_)
  rw [nG_nG] at hC ⊢
  have E13 : ∀ i, i < 1 → ad13 i = gad Γ i := fun i hi => (e13 i (Nat.lt_of_lt_of_le hi (by decide +kernel))).trans (E12 i hi)
  replace hC : CX (nG Γ ad13) cX9_init RX9 LK58 3 2 := hC
  show GX (nG Γ ad13) LK58 _ _ [some (.ref (ad13 0)), none] [.ref (ad13 28), .ref (ad13 0)] μZ _
  refine GX_putR (a := 0) (b := 28) (L := LK58) hC fkX9_49 (inInit_nG hin) (show vwCl[9]? = some (RX9, TX9, 11) from rfl) rfl rfl (tyX9_ok 7 (by decide)) (fun _ => rfl) (fun _ => rfl) (show LK58[0]? = some (.inl (9, [some (some 1), some (some 8), some (some 15), none, some (some 22), some (some 23), some (some 24), some none, some none, some none, some none])) by decide +kernel) (by decide) dX9_init_81 (fun hC => ?_)
  replace hC : CX (nG Γ ad13) cX9_init RX9 LK59 3 2 := hC
  show GX (nG Γ ad13) LK59 _ _ [some (.ref (ad13 0)), none] [] μZ _
  refine GX_aload_n hC dX9_init_84 rfl ?_
  refine GX_newO (ci := 0) hC [some none, some none, none, some none] (alOK_nG hal) clX9_53 inX0 iiX0 uwX0 tyX0_ok rfl ⟨rfl, by decide +kernel⟩ (by decide +kernel) (kX_nG (hkk _ _ (by decide) (by decide))) dX9_init_85 (fun ad => [some (.ref (ad 0)), none]) (fun ad => [.ref (ad 0)]) rfl rfl (fun a b h => ⟨by first | rfl | simp only [h 0 (by decide +kernel)], by first | rfl | simp only [h 0 (by decide +kernel)]⟩) (fun ad14 e14 hC => ?_)
  rw [nG_nG] at hC ⊢
  have E14 : ∀ i, i < 1 → ad14 i = gad Γ i := fun i hi => (e14 i (Nat.lt_of_lt_of_le hi (by decide +kernel))).trans (E13 i hi)
  replace hC : CX (nG Γ ad14) cX9_init RX9 LK60 3 2 := hC
  show GX (nG Γ ad14) LK60 _ _ [some (.ref (ad14 0)), none] [.ref (ad14 30), .ref (ad14 0)] μZ _
  refine GX_dup hC dX9_init_88 rfl ?_
  refine GX_callI (t := 30) hC K_Changes_30 okiX0 ckX9_55 (alOK_nG hal) hao (by decide) (by decide) (kX_nG (hkk _ _ (by decide) (by decide))) (Nat.le_of_ble_eq_true rfl) dX9_init_89 (fun ad => [some (.ref (ad 0)), none]) (fun ad => [.ref (ad 30), .ref (ad 0)]) rfl rfl (fun a b h => ⟨by first | rfl | simp only [h 0 (by decide +kernel), h 30 (by decide +kernel)], by first | rfl | simp only [h 0 (by decide +kernel), h 30 (by decide +kernel)]⟩) (fun ad15 e15 hC => ?_)
  rw [nG_nG] at hC ⊢
  have E15 : ∀ i, i < 1 → ad15 i = gad Γ i := fun i hi => (e15 i (Nat.lt_of_lt_of_le hi (by decide +kernel))).trans (E14 i hi)
  replace hC : CX (nG Γ ad15) cX9_init RX9 LK66 3 2 := hC
  show GX (nG Γ ad15) LK66 _ _ [some (.ref (ad15 0)), none] [.ref (ad15 30), .ref (ad15 0)] μZ _
  refine GX_putR (a := 0) (b := 30) (L := LK66) hC fkX9_56 (inInit_nG hin) (show vwCl[9]? = some (RX9, TX9, 11) from rfl) rfl rfl (tyX9_ok 8 (by decide)) (fun _ => rfl) (fun _ => rfl) (show LK66[0]? = some (.inl (9, [some (some 1), some (some 8), some (some 15), none, some (some 22), some (some 23), some (some 24), some (some 28), some none, some none, some none])) by decide +kernel) (by decide) dX9_init_92 (fun hC => ?_)
  replace hC : CX (nG Γ ad15) cX9_init RX9 LK67 3 2 := hC
  show GX (nG Γ ad15) LK67 _ _ [some (.ref (ad15 0)), none] [] μZ _
  refine GX_aload_n hC dX9_init_95 rfl ?_
  refine GX_newO (ci := 6) hC [some none] (alOK_nG hal) clX9_60 inX6 iiX6 uwX6 tyX6_ok rfl ⟨rfl, by decide +kernel⟩ (by decide +kernel) (kX_nG (hkk _ _ (by decide) (by decide))) dX9_init_96 (fun ad => [some (.ref (ad 0)), none]) (fun ad => [.ref (ad 0)]) rfl rfl (fun a b h => ⟨by first | rfl | simp only [h 0 (by decide +kernel)], by first | rfl | simp only [h 0 (by decide +kernel)]⟩) (fun ad16 e16 hC => ?_)
  rw [nG_nG] at hC ⊢
  have E16 : ∀ i, i < 1 → ad16 i = gad Γ i := fun i hi => (e16 i (Nat.lt_of_lt_of_le hi (by decide +kernel))).trans (E15 i hi)
  replace hC : CX (nG Γ ad16) cX9_init RX9 LK68 3 2 := hC
  show GX (nG Γ ad16) LK68 _ _ [some (.ref (ad16 0)), none] [.ref (ad16 34), .ref (ad16 0)] μZ _
  refine GX_dup hC dX9_init_99 rfl ?_
  refine GX_callI (t := 34) hC K_Play_34 okiX6 ckX9_62 (alOK_nG hal) hao (by decide) (by decide) (kX_nG (hkk _ _ (by decide) (by decide))) (Nat.le_of_ble_eq_true rfl) dX9_init_100 (fun ad => [some (.ref (ad 0)), none]) (fun ad => [.ref (ad 34), .ref (ad 0)]) rfl rfl (fun a b h => ⟨by first | rfl | simp only [h 0 (by decide +kernel), h 34 (by decide +kernel)], by first | rfl | simp only [h 0 (by decide +kernel), h 34 (by decide +kernel)]⟩) (fun ad17 e17 hC => ?_)
  rw [nG_nG] at hC ⊢
  have E17 : ∀ i, i < 1 → ad17 i = gad Γ i := fun i hi => (e17 i (Nat.lt_of_lt_of_le hi (by decide +kernel))).trans (E16 i hi)
  replace hC : CX (nG Γ ad17) cX9_init RX9 LK70 3 2 := hC
  show GX (nG Γ ad17) LK70 _ _ [some (.ref (ad17 0)), none] [.ref (ad17 34), .ref (ad17 0)] μZ _
  refine GX_putR (a := 0) (b := 34) (L := LK70) hC fkX9_63 (inInit_nG hin) (show vwCl[9]? = some (RX9, TX9, 11) from rfl) rfl rfl (tyX9_ok 9 (by decide)) (fun _ => rfl) (fun _ => rfl) (show LK70[0]? = some (.inl (9, [some (some 1), some (some 8), some (some 15), none, some (some 22), some (some 23), some (some 24), some (some 28), some (some 30), some none, some none])) by decide +kernel) (by decide) dX9_init_103 (fun hC => ?_)
  replace hC : CX (nG Γ ad17) cX9_init RX9 LK71 3 2 := hC
  show GX (nG Γ ad17) LK71 _ _ [some (.ref (ad17 0)), none] [] μZ _
  refine GX_aload_n hC dX9_init_106 rfl ?_
  refine GX_newO (ci := 1) hC [none, some none] (alOK_nG hal) clX9_67 inX1 iiX1 uwX1 tyX1_ok rfl ⟨rfl, by decide +kernel⟩ (by decide +kernel) (kX_nG (hkk _ _ (by decide) (by decide))) dX9_init_107 (fun ad => [some (.ref (ad 0)), none]) (fun ad => [.ref (ad 0)]) rfl rfl (fun a b h => ⟨by first | rfl | simp only [h 0 (by decide +kernel)], by first | rfl | simp only [h 0 (by decide +kernel)]⟩) (fun ad18 e18 hC => ?_)
  rw [nG_nG] at hC ⊢
  have E18 : ∀ i, i < 1 → ad18 i = gad Γ i := fun i hi => (e18 i (Nat.lt_of_lt_of_le hi (by decide +kernel))).trans (E17 i hi)
  replace hC : CX (nG Γ ad18) cX9_init RX9 LK72 3 2 := hC
  show GX (nG Γ ad18) LK72 _ _ [some (.ref (ad18 0)), none] [.ref (ad18 36), .ref (ad18 0)] μZ _
  refine GX_dup hC dX9_init_110 rfl ?_
  refine GX_callI (t := 36) hC K_DeedBook_36 okiX1 ckX9_69 (alOK_nG hal) hao (by decide) (by decide) (kX_nG (hkk _ _ (by decide) (by decide))) (Nat.le_of_ble_eq_true rfl) dX9_init_111 (fun ad => [some (.ref (ad 0)), none]) (fun ad => [.ref (ad 36), .ref (ad 0)]) rfl rfl (fun a b h => ⟨by first | rfl | simp only [h 0 (by decide +kernel), h 36 (by decide +kernel)], by first | rfl | simp only [h 0 (by decide +kernel), h 36 (by decide +kernel)]⟩) (fun ad19 e19 hC => ?_)
  rw [nG_nG] at hC ⊢
  have E19 : ∀ i, i < 1 → ad19 i = gad Γ i := fun i hi => (e19 i (Nat.lt_of_lt_of_le hi (by decide +kernel))).trans (E18 i hi)
  replace hC : CX (nG Γ ad19) cX9_init RX9 LK74 3 2 := hC
  show GX (nG Γ ad19) LK74 _ _ [some (.ref (ad19 0)), none] [.ref (ad19 36), .ref (ad19 0)] μZ _
  refine GX_putR (a := 0) (b := 36) (L := LK74) hC fkX9_70 (inInit_nG hin) (show vwCl[9]? = some (RX9, TX9, 11) from rfl) rfl rfl (tyX9_ok 10 (by decide)) (fun _ => rfl) (fun _ => rfl) (show LK74[0]? = some (.inl (9, [some (some 1), some (some 8), some (some 15), none, some (some 22), some (some 23), some (some 24), some (some 28), some (some 30), some (some 34), some none])) by decide +kernel) (by decide) dX9_init_114 (fun hC => ?_)
  replace hC : CX (nG Γ ad19) cX9_init RX9 LK75 3 2 := hC
  show GX (nG Γ ad19) LK75 _ _ [some (.ref (ad19 0)), none] [] μZ _
  refine GX_iconst hC 0 dX9_init_117 rfl ?_
  refine GX_istore_n hC [some (.ref (ad19 0)), some (.int 0)] dX9_init_118 (by decide) rfl rfl ?_
  refine GX_iload_n hC dX9_init_119 rfl ?_
  refine GX_aload_n hC dX9_init_120 rfl ?_
  refine GX_getR (a := 0) (b := 22) (L := LK75) hC fkX9_28 (show LK75[0]? = some (.inl (9, [some (some 1), some (some 8), some (some 15), none, some (some 22), some (some 23), some (some 24), some (some 28), some (some 30), some (some 34), some (some 36)])) by decide +kernel) rfl dX9_init_121 ?_
  show GX (nG Γ ad19) LK75 _ _ [some (.ref (ad19 0)), some (.int 0)] [.ref (ad19 22), .int 0] μZ _
  refine GX_alen (a := 22) (L := LK75) hC 8 (show LK75[22]? = some (.inr (3, 8, [])) by decide +kernel) (by decide) rfl dX9_init_124 ?_
  refine GX_icmp_ge_P hC 147 dX9_init_125 (by decide) (fun q => absurd q (by decide)) (fun _ => ?_)
  refine GX_aload_n hC dX9_init_128 rfl ?_
  refine GX_getR (a := 0) (b := 22) (L := LK75) hC fkX9_28 (show LK75[0]? = some (.inl (9, [some (some 1), some (some 8), some (some 15), none, some (some 22), some (some 23), some (some 24), some (some 28), some (some 30), some (some 34), some (some 36)])) by decide +kernel) rfl dX9_init_129 ?_
  show GX (nG Γ ad19) LK75 _ _ [some (.ref (ad19 0)), some (.int 0)] [.ref (ad19 22)] μZ _
  refine GX_iload_n hC dX9_init_132 rfl ?_
  refine GX_newO (ci := 8) hC [none, none, none, some none, some none] (alOK_nG hal) clX9_26 inX8 iiX8 uwX8 tyX8_ok rfl ⟨rfl, by decide +kernel⟩ (by decide +kernel) (kX_nG (hkk _ _ (by decide) (by decide))) dX9_init_133 (fun ad => [some (.ref (ad 0)), some (.int 0)]) (fun ad => [.int 0, .ref (ad 22)]) rfl rfl (fun a b h => ⟨by first | rfl | simp only [h 0 (by decide +kernel), h 22 (by decide +kernel)], by first | rfl | simp only [h 0 (by decide +kernel), h 22 (by decide +kernel)]⟩) (fun ad20 e20 hC => ?_)
  rw [nG_nG] at hC ⊢
  have E20 : ∀ i, i < 1 → ad20 i = gad Γ i := fun i hi => (e20 i (Nat.lt_of_lt_of_le hi (by decide +kernel))).trans (E19 i hi)
  replace hC : CX (nG Γ ad20) cX9_init RX9 LK76 3 2 := hC
  show GX (nG Γ ad20) LK76 _ _ [some (.ref (ad20 0)), some (.int 0)] [.ref (ad20 38), .int 0, .ref (ad20 22)] μZ _
  refine GX_dup hC dX9_init_136 rfl ?_
  refine GX_callI (t := 38) hC K_Shelf_38 okiX8 ckX9_74 (alOK_nG hal) hao (by decide) (by decide) (kX_nG (hkk _ _ (by decide) (by decide))) (Nat.le_of_ble_eq_true rfl) dX9_init_137 (fun ad => [some (.ref (ad 0)), some (.int 0)]) (fun ad => [.ref (ad 38), .int 0, .ref (ad 22)]) rfl rfl (fun a b h => ⟨by first | rfl | simp only [h 0 (by decide +kernel), h 22 (by decide +kernel), h 38 (by decide +kernel)], by first | rfl | simp only [h 0 (by decide +kernel), h 22 (by decide +kernel), h 38 (by decide +kernel)]⟩) (fun ad21 e21 hC => ?_)
  rw [nG_nG] at hC ⊢
  have E21 : ∀ i, i < 1 → ad21 i = gad Γ i := fun i hi => (e21 i (Nat.lt_of_lt_of_le hi (by decide +kernel))).trans (E20 i hi)
  replace hC : CX (nG Γ ad21) cX9_init RX9 LK80 3 2 := hC
  show GX (nG Γ ad21) LK80 _ _ [some (.ref (ad21 0)), some (.int 0)] [.ref (ad21 38), .int 0, .ref (ad21 22)] μZ _
  refine GX_aast (a := 22) (b := 38) (L := LK80) hC (show LK80[22]? = some (.inr (3, 8, [])) by decide +kernel) (show LK80[38]? = some (.inl (8, [none, none, none, some (some 39), some (some 40)])) by decide +kernel) (show vwCl[8]? = some (RX8, TX8, 5) from rfl) (by decide) [some 38] (by intro z; have hz : (0 : Int32).toNatClampNeg = 0 := rfl; rw [hz]; rcases z with _ | z <;> simp) dX9_init_140 (fun hC => ?_)
  replace hC : CX (nG Γ ad21) cX9_init RX9 LK81 3 2 := hC
  show GX (nG Γ ad21) LK81 _ _ [some (.ref (ad21 0)), some (.int 0)] [] μZ _
  refine GX_iinc hC 1 [some (.ref (ad21 0)), some (.int 1)] dX9_init_141 rfl rfl (by decide) rfl rfl ?_
  refine GX_goto hC 119 dX9_init_144 (by decide) ?_
  refine GX_iload_n hC dX9_init_119 rfl ?_
  refine GX_aload_n hC dX9_init_120 rfl ?_
  refine GX_getR (a := 0) (b := 22) (L := LK81) hC fkX9_28 (show LK81[0]? = some (.inl (9, [some (some 1), some (some 8), some (some 15), none, some (some 22), some (some 23), some (some 24), some (some 28), some (some 30), some (some 34), some (some 36)])) by decide +kernel) rfl dX9_init_121 ?_
  show GX (nG Γ ad21) LK81 _ _ [some (.ref (ad21 0)), some (.int 1)] [.ref (ad21 22), .int 1] μZ _
  refine GX_alen (a := 22) (L := LK81) hC 8 (show LK81[22]? = some (.inr (3, 8, [some 38])) by decide +kernel) (by decide) rfl dX9_init_124 ?_
  refine GX_icmp_ge_P hC 147 dX9_init_125 (by decide) (fun q => absurd q (by decide)) (fun _ => ?_)
  refine GX_aload_n hC dX9_init_128 rfl ?_
  refine GX_getR (a := 0) (b := 22) (L := LK81) hC fkX9_28 (show LK81[0]? = some (.inl (9, [some (some 1), some (some 8), some (some 15), none, some (some 22), some (some 23), some (some 24), some (some 28), some (some 30), some (some 34), some (some 36)])) by decide +kernel) rfl dX9_init_129 ?_
  show GX (nG Γ ad21) LK81 _ _ [some (.ref (ad21 0)), some (.int 1)] [.ref (ad21 22)] μZ _
  refine GX_iload_n hC dX9_init_132 rfl ?_
  refine GX_newO (ci := 8) hC [none, none, none, some none, some none] (alOK_nG hal) clX9_26 inX8 iiX8 uwX8 tyX8_ok rfl ⟨rfl, by decide +kernel⟩ (by decide +kernel) (kX_nG (hkk _ _ (by decide) (by decide))) dX9_init_133 (fun ad => [some (.ref (ad 0)), some (.int 1)]) (fun ad => [.int 1, .ref (ad 22)]) rfl rfl (fun a b h => ⟨by first | rfl | simp only [h 0 (by decide +kernel), h 22 (by decide +kernel)], by first | rfl | simp only [h 0 (by decide +kernel), h 22 (by decide +kernel)]⟩) (fun ad22 e22 hC => ?_)
  rw [nG_nG] at hC ⊢
  have E22 : ∀ i, i < 1 → ad22 i = gad Γ i := fun i hi => (e22 i (Nat.lt_of_lt_of_le hi (by decide +kernel))).trans (E21 i hi)
  replace hC : CX (nG Γ ad22) cX9_init RX9 LK82 3 2 := hC
  show GX (nG Γ ad22) LK82 _ _ [some (.ref (ad22 0)), some (.int 1)] [.ref (ad22 41), .int 1, .ref (ad22 22)] μZ _
  refine GX_dup hC dX9_init_136 rfl ?_
  refine GX_callI (t := 41) hC K_Shelf_41 okiX8 ckX9_74 (alOK_nG hal) hao (by decide) (by decide) (kX_nG (hkk _ _ (by decide) (by decide))) (Nat.le_of_ble_eq_true rfl) dX9_init_137 (fun ad => [some (.ref (ad 0)), some (.int 1)]) (fun ad => [.ref (ad 41), .int 1, .ref (ad 22)]) rfl rfl (fun a b h => ⟨by first | rfl | simp only [h 0 (by decide +kernel), h 22 (by decide +kernel), h 41 (by decide +kernel)], by first | rfl | simp only [h 0 (by decide +kernel), h 22 (by decide +kernel), h 41 (by decide +kernel)]⟩) (fun ad23 e23 hC => ?_)
  rw [nG_nG] at hC ⊢
  have E23 : ∀ i, i < 1 → ad23 i = gad Γ i := fun i hi => (e23 i (Nat.lt_of_lt_of_le hi (by decide +kernel))).trans (E22 i hi)
  replace hC : CX (nG Γ ad23) cX9_init RX9 LK86 3 2 := hC
  show GX (nG Γ ad23) LK86 _ _ [some (.ref (ad23 0)), some (.int 1)] [.ref (ad23 41), .int 1, .ref (ad23 22)] μZ _
  refine GX_aast (a := 22) (b := 41) (L := LK86) hC (show LK86[22]? = some (.inr (3, 8, [some 38])) by decide +kernel) (show LK86[41]? = some (.inl (8, [none, none, none, some (some 42), some (some 43)])) by decide +kernel) (show vwCl[8]? = some (RX8, TX8, 5) from rfl) (by decide) [some 38, some 41] (by intro z; have hz : (1 : Int32).toNatClampNeg = 1 := rfl; rw [hz]; rcases z with _ | _ | z <;> simp) dX9_init_140 (fun hC => ?_)
  replace hC : CX (nG Γ ad23) cX9_init RX9 LK87 3 2 := hC
  show GX (nG Γ ad23) LK87 _ _ [some (.ref (ad23 0)), some (.int 1)] [] μZ _
  refine GX_iinc hC 2 [some (.ref (ad23 0)), some (.int 2)] dX9_init_141 rfl rfl (by decide) rfl rfl ?_
  refine GX_goto hC 119 dX9_init_144 (by decide) ?_
  refine GX_iload_n hC dX9_init_119 rfl ?_
  refine GX_aload_n hC dX9_init_120 rfl ?_
  refine GX_getR (a := 0) (b := 22) (L := LK87) hC fkX9_28 (show LK87[0]? = some (.inl (9, [some (some 1), some (some 8), some (some 15), none, some (some 22), some (some 23), some (some 24), some (some 28), some (some 30), some (some 34), some (some 36)])) by decide +kernel) rfl dX9_init_121 ?_
  show GX (nG Γ ad23) LK87 _ _ [some (.ref (ad23 0)), some (.int 2)] [.ref (ad23 22), .int 2] μZ _
  refine GX_alen (a := 22) (L := LK87) hC 8 (show LK87[22]? = some (.inr (3, 8, [some 38, some 41])) by decide +kernel) (by decide) rfl dX9_init_124 ?_
  refine GX_icmp_ge_P hC 147 dX9_init_125 (by decide) (fun q => absurd q (by decide)) (fun _ => ?_)
  refine GX_aload_n hC dX9_init_128 rfl ?_
  refine GX_getR (a := 0) (b := 22) (L := LK87) hC fkX9_28 (show LK87[0]? = some (.inl (9, [some (some 1), some (some 8), some (some 15), none, some (some 22), some (some 23), some (some 24), some (some 28), some (some 30), some (some 34), some (some 36)])) by decide +kernel) rfl dX9_init_129 ?_
  show GX (nG Γ ad23) LK87 _ _ [some (.ref (ad23 0)), some (.int 2)] [.ref (ad23 22)] μZ _
  refine GX_iload_n hC dX9_init_132 rfl ?_
  refine GX_newO (ci := 8) hC [none, none, none, some none, some none] (alOK_nG hal) clX9_26 inX8 iiX8 uwX8 tyX8_ok rfl ⟨rfl, by decide +kernel⟩ (by decide +kernel) (kX_nG (hkk _ _ (by decide) (by decide))) dX9_init_133 (fun ad => [some (.ref (ad 0)), some (.int 2)]) (fun ad => [.int 2, .ref (ad 22)]) rfl rfl (fun a b h => ⟨by first | rfl | simp only [h 0 (by decide +kernel), h 22 (by decide +kernel)], by first | rfl | simp only [h 0 (by decide +kernel), h 22 (by decide +kernel)]⟩) (fun ad24 e24 hC => ?_)
  rw [nG_nG] at hC ⊢
  have E24 : ∀ i, i < 1 → ad24 i = gad Γ i := fun i hi => (e24 i (Nat.lt_of_lt_of_le hi (by decide +kernel))).trans (E23 i hi)
  replace hC : CX (nG Γ ad24) cX9_init RX9 LK88 3 2 := hC
  show GX (nG Γ ad24) LK88 _ _ [some (.ref (ad24 0)), some (.int 2)] [.ref (ad24 44), .int 2, .ref (ad24 22)] μZ _
  refine GX_dup hC dX9_init_136 rfl ?_
  refine GX_callI (t := 44) hC K_Shelf_44 okiX8 ckX9_74 (alOK_nG hal) hao (by decide) (by decide) (kX_nG (hkk _ _ (by decide) (by decide))) (Nat.le_of_ble_eq_true rfl) dX9_init_137 (fun ad => [some (.ref (ad 0)), some (.int 2)]) (fun ad => [.ref (ad 44), .int 2, .ref (ad 22)]) rfl rfl (fun a b h => ⟨by first | rfl | simp only [h 0 (by decide +kernel), h 22 (by decide +kernel), h 44 (by decide +kernel)], by first | rfl | simp only [h 0 (by decide +kernel), h 22 (by decide +kernel), h 44 (by decide +kernel)]⟩) (fun ad25 e25 hC => ?_)
  rw [nG_nG] at hC ⊢
  have E25 : ∀ i, i < 1 → ad25 i = gad Γ i := fun i hi => (e25 i (Nat.lt_of_lt_of_le hi (by decide +kernel))).trans (E24 i hi)
  replace hC : CX (nG Γ ad25) cX9_init RX9 LK92 3 2 := hC
  show GX (nG Γ ad25) LK92 _ _ [some (.ref (ad25 0)), some (.int 2)] [.ref (ad25 44), .int 2, .ref (ad25 22)] μZ _
  refine GX_aast (a := 22) (b := 44) (L := LK92) hC (show LK92[22]? = some (.inr (3, 8, [some 38, some 41])) by decide +kernel) (show LK92[44]? = some (.inl (8, [none, none, none, some (some 45), some (some 46)])) by decide +kernel) (show vwCl[8]? = some (RX8, TX8, 5) from rfl) (by decide) [some 38, some 41, some 44] (by intro z; have hz : (2 : Int32).toNatClampNeg = 2 := rfl; rw [hz]; rcases z with _ | _ | _ | z <;> simp) dX9_init_140 (fun hC => ?_)
  replace hC : CX (nG Γ ad25) cX9_init RX9 LK93 3 2 := hC
  show GX (nG Γ ad25) LK93 _ _ [some (.ref (ad25 0)), some (.int 2)] [] μZ _
  refine GX_iinc hC 3 [some (.ref (ad25 0)), some (.int 3)] dX9_init_141 rfl rfl (by decide) rfl rfl ?_
  refine GX_goto hC 119 dX9_init_144 (by decide) ?_
  refine GX_iload_n hC dX9_init_119 rfl ?_
  refine GX_aload_n hC dX9_init_120 rfl ?_
  refine GX_getR (a := 0) (b := 22) (L := LK93) hC fkX9_28 (show LK93[0]? = some (.inl (9, [some (some 1), some (some 8), some (some 15), none, some (some 22), some (some 23), some (some 24), some (some 28), some (some 30), some (some 34), some (some 36)])) by decide +kernel) rfl dX9_init_121 ?_
  show GX (nG Γ ad25) LK93 _ _ [some (.ref (ad25 0)), some (.int 3)] [.ref (ad25 22), .int 3] μZ _
  refine GX_alen (a := 22) (L := LK93) hC 8 (show LK93[22]? = some (.inr (3, 8, [some 38, some 41, some 44])) by decide +kernel) (by decide) rfl dX9_init_124 ?_
  refine GX_icmp_ge_P hC 147 dX9_init_125 (by decide) (fun q => absurd q (by decide)) (fun _ => ?_)
  refine GX_aload_n hC dX9_init_128 rfl ?_
  refine GX_getR (a := 0) (b := 22) (L := LK93) hC fkX9_28 (show LK93[0]? = some (.inl (9, [some (some 1), some (some 8), some (some 15), none, some (some 22), some (some 23), some (some 24), some (some 28), some (some 30), some (some 34), some (some 36)])) by decide +kernel) rfl dX9_init_129 ?_
  show GX (nG Γ ad25) LK93 _ _ [some (.ref (ad25 0)), some (.int 3)] [.ref (ad25 22)] μZ _
  refine GX_iload_n hC dX9_init_132 rfl ?_
  refine GX_newO (ci := 8) hC [none, none, none, some none, some none] (alOK_nG hal) clX9_26 inX8 iiX8 uwX8 tyX8_ok rfl ⟨rfl, by decide +kernel⟩ (by decide +kernel) (kX_nG (hkk _ _ (by decide) (by decide))) dX9_init_133 (fun ad => [some (.ref (ad 0)), some (.int 3)]) (fun ad => [.int 3, .ref (ad 22)]) rfl rfl (fun a b h => ⟨by first | rfl | simp only [h 0 (by decide +kernel), h 22 (by decide +kernel)], by first | rfl | simp only [h 0 (by decide +kernel), h 22 (by decide +kernel)]⟩) (fun ad26 e26 hC => ?_)
  rw [nG_nG] at hC ⊢
  have E26 : ∀ i, i < 1 → ad26 i = gad Γ i := fun i hi => (e26 i (Nat.lt_of_lt_of_le hi (by decide +kernel))).trans (E25 i hi)
  replace hC : CX (nG Γ ad26) cX9_init RX9 LK94 3 2 := hC
  show GX (nG Γ ad26) LK94 _ _ [some (.ref (ad26 0)), some (.int 3)] [.ref (ad26 47), .int 3, .ref (ad26 22)] μZ _
  refine GX_dup hC dX9_init_136 rfl ?_
  refine GX_callI (t := 47) hC K_Shelf_47 okiX8 ckX9_74 (alOK_nG hal) hao (by decide) (by decide) (kX_nG (hkk _ _ (by decide) (by decide))) (Nat.le_of_ble_eq_true rfl) dX9_init_137 (fun ad => [some (.ref (ad 0)), some (.int 3)]) (fun ad => [.ref (ad 47), .int 3, .ref (ad 22)]) rfl rfl (fun a b h => ⟨by first | rfl | simp only [h 0 (by decide +kernel), h 22 (by decide +kernel), h 47 (by decide +kernel)], by first | rfl | simp only [h 0 (by decide +kernel), h 22 (by decide +kernel), h 47 (by decide +kernel)]⟩) (fun ad27 e27 hC => ?_)
  rw [nG_nG] at hC ⊢
  have E27 : ∀ i, i < 1 → ad27 i = gad Γ i := fun i hi => (e27 i (Nat.lt_of_lt_of_le hi (by decide +kernel))).trans (E26 i hi)
  replace hC : CX (nG Γ ad27) cX9_init RX9 LK98 3 2 := hC
  show GX (nG Γ ad27) LK98 _ _ [some (.ref (ad27 0)), some (.int 3)] [.ref (ad27 47), .int 3, .ref (ad27 22)] μZ _
  refine GX_aast (a := 22) (b := 47) (L := LK98) hC (show LK98[22]? = some (.inr (3, 8, [some 38, some 41, some 44])) by decide +kernel) (show LK98[47]? = some (.inl (8, [none, none, none, some (some 48), some (some 49)])) by decide +kernel) (show vwCl[8]? = some (RX8, TX8, 5) from rfl) (by decide) [some 38, some 41, some 44, some 47] (by intro z; have hz : (3 : Int32).toNatClampNeg = 3 := rfl; rw [hz]; rcases z with _ | _ | _ | _ | z <;> simp) dX9_init_140 (fun hC => ?_)
  replace hC : CX (nG Γ ad27) cX9_init RX9 LK99 3 2 := hC
  show GX (nG Γ ad27) LK99 _ _ [some (.ref (ad27 0)), some (.int 3)] [] μZ _
  refine GX_iinc hC 4 [some (.ref (ad27 0)), some (.int 4)] dX9_init_141 rfl rfl (by decide) rfl rfl ?_
  refine GX_goto hC 119 dX9_init_144 (by decide) ?_
  refine GX_iload_n hC dX9_init_119 rfl ?_
  refine GX_aload_n hC dX9_init_120 rfl ?_
  refine GX_getR (a := 0) (b := 22) (L := LK99) hC fkX9_28 (show LK99[0]? = some (.inl (9, [some (some 1), some (some 8), some (some 15), none, some (some 22), some (some 23), some (some 24), some (some 28), some (some 30), some (some 34), some (some 36)])) by decide +kernel) rfl dX9_init_121 ?_
  show GX (nG Γ ad27) LK99 _ _ [some (.ref (ad27 0)), some (.int 4)] [.ref (ad27 22), .int 4] μZ _
  refine GX_alen (a := 22) (L := LK99) hC 8 (show LK99[22]? = some (.inr (3, 8, [some 38, some 41, some 44, some 47])) by decide +kernel) (by decide) rfl dX9_init_124 ?_
  refine GX_icmp_ge_P hC 147 dX9_init_125 (by decide) (fun q => absurd q (by decide)) (fun _ => ?_)
  refine GX_aload_n hC dX9_init_128 rfl ?_
  refine GX_getR (a := 0) (b := 22) (L := LK99) hC fkX9_28 (show LK99[0]? = some (.inl (9, [some (some 1), some (some 8), some (some 15), none, some (some 22), some (some 23), some (some 24), some (some 28), some (some 30), some (some 34), some (some 36)])) by decide +kernel) rfl dX9_init_129 ?_
  show GX (nG Γ ad27) LK99 _ _ [some (.ref (ad27 0)), some (.int 4)] [.ref (ad27 22)] μZ _
  refine GX_iload_n hC dX9_init_132 rfl ?_
  refine GX_newO (ci := 8) hC [none, none, none, some none, some none] (alOK_nG hal) clX9_26 inX8 iiX8 uwX8 tyX8_ok rfl ⟨rfl, by decide +kernel⟩ (by decide +kernel) (kX_nG (hkk _ _ (by decide) (by decide))) dX9_init_133 (fun ad => [some (.ref (ad 0)), some (.int 4)]) (fun ad => [.int 4, .ref (ad 22)]) rfl rfl (fun a b h => ⟨by first | rfl | simp only [h 0 (by decide +kernel), h 22 (by decide +kernel)], by first | rfl | simp only [h 0 (by decide +kernel), h 22 (by decide +kernel)]⟩) (fun ad28 e28 hC => ?_)
  rw [nG_nG] at hC ⊢
  have E28 : ∀ i, i < 1 → ad28 i = gad Γ i := fun i hi => (e28 i (Nat.lt_of_lt_of_le hi (by decide +kernel))).trans (E27 i hi)
  replace hC : CX (nG Γ ad28) cX9_init RX9 LK100 3 2 := hC
  show GX (nG Γ ad28) LK100 _ _ [some (.ref (ad28 0)), some (.int 4)] [.ref (ad28 50), .int 4, .ref (ad28 22)] μZ _
  refine GX_dup hC dX9_init_136 rfl ?_
  refine GX_callI (t := 50) hC K_Shelf_50 okiX8 ckX9_74 (alOK_nG hal) hao (by decide) (by decide) (kX_nG (hkk _ _ (by decide) (by decide))) (Nat.le_of_ble_eq_true rfl) dX9_init_137 (fun ad => [some (.ref (ad 0)), some (.int 4)]) (fun ad => [.ref (ad 50), .int 4, .ref (ad 22)]) rfl rfl (fun a b h => ⟨by first | rfl | simp only [h 0 (by decide +kernel), h 22 (by decide +kernel), h 50 (by decide +kernel)], by first | rfl | simp only [h 0 (by decide +kernel), h 22 (by decide +kernel), h 50 (by decide +kernel)]⟩) (fun ad29 e29 hC => ?_)
  rw [nG_nG] at hC ⊢
  have E29 : ∀ i, i < 1 → ad29 i = gad Γ i := fun i hi => (e29 i (Nat.lt_of_lt_of_le hi (by decide +kernel))).trans (E28 i hi)
  replace hC : CX (nG Γ ad29) cX9_init RX9 LK104 3 2 := hC
  show GX (nG Γ ad29) LK104 _ _ [some (.ref (ad29 0)), some (.int 4)] [.ref (ad29 50), .int 4, .ref (ad29 22)] μZ _
  refine GX_aast (a := 22) (b := 50) (L := LK104) hC (show LK104[22]? = some (.inr (3, 8, [some 38, some 41, some 44, some 47])) by decide +kernel) (show LK104[50]? = some (.inl (8, [none, none, none, some (some 51), some (some 52)])) by decide +kernel) (show vwCl[8]? = some (RX8, TX8, 5) from rfl) (by decide) [some 38, some 41, some 44, some 47, some 50] (by intro z; have hz : (4 : Int32).toNatClampNeg = 4 := rfl; rw [hz]; rcases z with _ | _ | _ | _ | _ | z <;> simp) dX9_init_140 (fun hC => ?_)
  replace hC : CX (nG Γ ad29) cX9_init RX9 LK105 3 2 := hC
  show GX (nG Γ ad29) LK105 _ _ [some (.ref (ad29 0)), some (.int 4)] [] μZ _
  refine GX_iinc hC 5 [some (.ref (ad29 0)), some (.int 5)] dX9_init_141 rfl rfl (by decide) rfl rfl ?_
  refine GX_goto hC 119 dX9_init_144 (by decide) ?_
  refine GX_iload_n hC dX9_init_119 rfl ?_
  refine GX_aload_n hC dX9_init_120 rfl ?_
  refine GX_getR (a := 0) (b := 22) (L := LK105) hC fkX9_28 (show LK105[0]? = some (.inl (9, [some (some 1), some (some 8), some (some 15), none, some (some 22), some (some 23), some (some 24), some (some 28), some (some 30), some (some 34), some (some 36)])) by decide +kernel) rfl dX9_init_121 ?_
  show GX (nG Γ ad29) LK105 _ _ [some (.ref (ad29 0)), some (.int 5)] [.ref (ad29 22), .int 5] μZ _
  refine GX_alen (a := 22) (L := LK105) hC 8 (show LK105[22]? = some (.inr (3, 8, [some 38, some 41, some 44, some 47, some 50])) by decide +kernel) (by decide) rfl dX9_init_124 ?_
  refine GX_icmp_ge_P hC 147 dX9_init_125 (by decide) (fun q => absurd q (by decide)) (fun _ => ?_)
  refine GX_aload_n hC dX9_init_128 rfl ?_
  refine GX_getR (a := 0) (b := 22) (L := LK105) hC fkX9_28 (show LK105[0]? = some (.inl (9, [some (some 1), some (some 8), some (some 15), none, some (some 22), some (some 23), some (some 24), some (some 28), some (some 30), some (some 34), some (some 36)])) by decide +kernel) rfl dX9_init_129 ?_
  show GX (nG Γ ad29) LK105 _ _ [some (.ref (ad29 0)), some (.int 5)] [.ref (ad29 22)] μZ _
  refine GX_iload_n hC dX9_init_132 rfl ?_
  refine GX_newO (ci := 8) hC [none, none, none, some none, some none] (alOK_nG hal) clX9_26 inX8 iiX8 uwX8 tyX8_ok rfl ⟨rfl, by decide +kernel⟩ (by decide +kernel) (kX_nG (hkk _ _ (by decide) (by decide))) dX9_init_133 (fun ad => [some (.ref (ad 0)), some (.int 5)]) (fun ad => [.int 5, .ref (ad 22)]) rfl rfl (fun a b h => ⟨by first | rfl | simp only [h 0 (by decide +kernel), h 22 (by decide +kernel)], by first | rfl | simp only [h 0 (by decide +kernel), h 22 (by decide +kernel)]⟩) (fun ad30 e30 hC => ?_)
  rw [nG_nG] at hC ⊢
  have E30 : ∀ i, i < 1 → ad30 i = gad Γ i := fun i hi => (e30 i (Nat.lt_of_lt_of_le hi (by decide +kernel))).trans (E29 i hi)
  replace hC : CX (nG Γ ad30) cX9_init RX9 LK106 3 2 := hC
  show GX (nG Γ ad30) LK106 _ _ [some (.ref (ad30 0)), some (.int 5)] [.ref (ad30 53), .int 5, .ref (ad30 22)] μZ _
  refine GX_dup hC dX9_init_136 rfl ?_
  refine GX_callI (t := 53) hC K_Shelf_53 okiX8 ckX9_74 (alOK_nG hal) hao (by decide) (by decide) (kX_nG (hkk _ _ (by decide) (by decide))) (Nat.le_of_ble_eq_true rfl) dX9_init_137 (fun ad => [some (.ref (ad 0)), some (.int 5)]) (fun ad => [.ref (ad 53), .int 5, .ref (ad 22)]) rfl rfl (fun a b h => ⟨by first | rfl | simp only [h 0 (by decide +kernel), h 22 (by decide +kernel), h 53 (by decide +kernel)], by first | rfl | simp only [h 0 (by decide +kernel), h 22 (by decide +kernel), h 53 (by decide +kernel)]⟩) (fun ad31 e31 hC => ?_)
  rw [nG_nG] at hC ⊢
  have E31 : ∀ i, i < 1 → ad31 i = gad Γ i := fun i hi => (e31 i (Nat.lt_of_lt_of_le hi (by decide +kernel))).trans (E30 i hi)
  replace hC : CX (nG Γ ad31) cX9_init RX9 LK110 3 2 := hC
  show GX (nG Γ ad31) LK110 _ _ [some (.ref (ad31 0)), some (.int 5)] [.ref (ad31 53), .int 5, .ref (ad31 22)] μZ _
  refine GX_aast (a := 22) (b := 53) (L := LK110) hC (show LK110[22]? = some (.inr (3, 8, [some 38, some 41, some 44, some 47, some 50])) by decide +kernel) (show LK110[53]? = some (.inl (8, [none, none, none, some (some 54), some (some 55)])) by decide +kernel) (show vwCl[8]? = some (RX8, TX8, 5) from rfl) (by decide) [some 38, some 41, some 44, some 47, some 50, some 53] (by intro z; have hz : (5 : Int32).toNatClampNeg = 5 := rfl; rw [hz]; rcases z with _ | _ | _ | _ | _ | _ | z <;> simp) dX9_init_140 (fun hC => ?_)
  replace hC : CX (nG Γ ad31) cX9_init RX9 LK111 3 2 := hC
  show GX (nG Γ ad31) LK111 _ _ [some (.ref (ad31 0)), some (.int 5)] [] μZ _
  refine GX_iinc hC 6 [some (.ref (ad31 0)), some (.int 6)] dX9_init_141 rfl rfl (by decide) rfl rfl ?_
  refine GX_goto hC 119 dX9_init_144 (by decide) ?_
  refine GX_iload_n hC dX9_init_119 rfl ?_
  refine GX_aload_n hC dX9_init_120 rfl ?_
  refine GX_getR (a := 0) (b := 22) (L := LK111) hC fkX9_28 (show LK111[0]? = some (.inl (9, [some (some 1), some (some 8), some (some 15), none, some (some 22), some (some 23), some (some 24), some (some 28), some (some 30), some (some 34), some (some 36)])) by decide +kernel) rfl dX9_init_121 ?_
  show GX (nG Γ ad31) LK111 _ _ [some (.ref (ad31 0)), some (.int 6)] [.ref (ad31 22), .int 6] μZ _
  refine GX_alen (a := 22) (L := LK111) hC 8 (show LK111[22]? = some (.inr (3, 8, [some 38, some 41, some 44, some 47, some 50, some 53])) by decide +kernel) (by decide) rfl dX9_init_124 ?_
  refine GX_icmp_ge_P hC 147 dX9_init_125 (by decide) (fun q => absurd q (by decide)) (fun _ => ?_)
  refine GX_aload_n hC dX9_init_128 rfl ?_
  refine GX_getR (a := 0) (b := 22) (L := LK111) hC fkX9_28 (show LK111[0]? = some (.inl (9, [some (some 1), some (some 8), some (some 15), none, some (some 22), some (some 23), some (some 24), some (some 28), some (some 30), some (some 34), some (some 36)])) by decide +kernel) rfl dX9_init_129 ?_
  show GX (nG Γ ad31) LK111 _ _ [some (.ref (ad31 0)), some (.int 6)] [.ref (ad31 22)] μZ _
  refine GX_iload_n hC dX9_init_132 rfl ?_
  refine GX_newO (ci := 8) hC [none, none, none, some none, some none] (alOK_nG hal) clX9_26 inX8 iiX8 uwX8 tyX8_ok rfl ⟨rfl, by decide +kernel⟩ (by decide +kernel) (kX_nG (hkk _ _ (by decide) (by decide))) dX9_init_133 (fun ad => [some (.ref (ad 0)), some (.int 6)]) (fun ad => [.int 6, .ref (ad 22)]) rfl rfl (fun a b h => ⟨by first | rfl | simp only [h 0 (by decide +kernel), h 22 (by decide +kernel)], by first | rfl | simp only [h 0 (by decide +kernel), h 22 (by decide +kernel)]⟩) (fun ad32 e32 hC => ?_)
  rw [nG_nG] at hC ⊢
  have E32 : ∀ i, i < 1 → ad32 i = gad Γ i := fun i hi => (e32 i (Nat.lt_of_lt_of_le hi (by decide +kernel))).trans (E31 i hi)
  replace hC : CX (nG Γ ad32) cX9_init RX9 LK112 3 2 := hC
  show GX (nG Γ ad32) LK112 _ _ [some (.ref (ad32 0)), some (.int 6)] [.ref (ad32 56), .int 6, .ref (ad32 22)] μZ _
  refine GX_dup hC dX9_init_136 rfl ?_
  refine GX_callI (t := 56) hC K_Shelf_56 okiX8 ckX9_74 (alOK_nG hal) hao (by decide) (by decide) (kX_nG (hkk _ _ (by decide) (by decide))) (Nat.le_of_ble_eq_true rfl) dX9_init_137 (fun ad => [some (.ref (ad 0)), some (.int 6)]) (fun ad => [.ref (ad 56), .int 6, .ref (ad 22)]) rfl rfl (fun a b h => ⟨by first | rfl | simp only [h 0 (by decide +kernel), h 22 (by decide +kernel), h 56 (by decide +kernel)], by first | rfl | simp only [h 0 (by decide +kernel), h 22 (by decide +kernel), h 56 (by decide +kernel)]⟩) (fun ad33 e33 hC => ?_)
  rw [nG_nG] at hC ⊢
  have E33 : ∀ i, i < 1 → ad33 i = gad Γ i := fun i hi => (e33 i (Nat.lt_of_lt_of_le hi (by decide +kernel))).trans (E32 i hi)
  replace hC : CX (nG Γ ad33) cX9_init RX9 LK116 3 2 := hC
  show GX (nG Γ ad33) LK116 _ _ [some (.ref (ad33 0)), some (.int 6)] [.ref (ad33 56), .int 6, .ref (ad33 22)] μZ _
  refine GX_aast (a := 22) (b := 56) (L := LK116) hC (show LK116[22]? = some (.inr (3, 8, [some 38, some 41, some 44, some 47, some 50, some 53])) by decide +kernel) (show LK116[56]? = some (.inl (8, [none, none, none, some (some 57), some (some 58)])) by decide +kernel) (show vwCl[8]? = some (RX8, TX8, 5) from rfl) (by decide) [some 38, some 41, some 44, some 47, some 50, some 53, some 56] (by intro z; have hz : (6 : Int32).toNatClampNeg = 6 := rfl; rw [hz]; rcases z with _ | _ | _ | _ | _ | _ | _ | z <;> simp) dX9_init_140 (fun hC => ?_)
  replace hC : CX (nG Γ ad33) cX9_init RX9 LK117 3 2 := hC
  show GX (nG Γ ad33) LK117 _ _ [some (.ref (ad33 0)), some (.int 6)] [] μZ _
  refine GX_iinc hC 7 [some (.ref (ad33 0)), some (.int 7)] dX9_init_141 rfl rfl (by decide) rfl rfl ?_
  refine GX_goto hC 119 dX9_init_144 (by decide) ?_
  refine GX_iload_n hC dX9_init_119 rfl ?_
  refine GX_aload_n hC dX9_init_120 rfl ?_
  refine GX_getR (a := 0) (b := 22) (L := LK117) hC fkX9_28 (show LK117[0]? = some (.inl (9, [some (some 1), some (some 8), some (some 15), none, some (some 22), some (some 23), some (some 24), some (some 28), some (some 30), some (some 34), some (some 36)])) by decide +kernel) rfl dX9_init_121 ?_
  show GX (nG Γ ad33) LK117 _ _ [some (.ref (ad33 0)), some (.int 7)] [.ref (ad33 22), .int 7] μZ _
  refine GX_alen (a := 22) (L := LK117) hC 8 (show LK117[22]? = some (.inr (3, 8, [some 38, some 41, some 44, some 47, some 50, some 53, some 56])) by decide +kernel) (by decide) rfl dX9_init_124 ?_
  refine GX_icmp_ge_P hC 147 dX9_init_125 (by decide) (fun q => absurd q (by decide)) (fun _ => ?_)
  refine GX_aload_n hC dX9_init_128 rfl ?_
  refine GX_getR (a := 0) (b := 22) (L := LK117) hC fkX9_28 (show LK117[0]? = some (.inl (9, [some (some 1), some (some 8), some (some 15), none, some (some 22), some (some 23), some (some 24), some (some 28), some (some 30), some (some 34), some (some 36)])) by decide +kernel) rfl dX9_init_129 ?_
  show GX (nG Γ ad33) LK117 _ _ [some (.ref (ad33 0)), some (.int 7)] [.ref (ad33 22)] μZ _
  refine GX_iload_n hC dX9_init_132 rfl ?_
  refine GX_newO (ci := 8) hC [none, none, none, some none, some none] (alOK_nG hal) clX9_26 inX8 iiX8 uwX8 tyX8_ok rfl ⟨rfl, by decide +kernel⟩ (by decide +kernel) (kX_nG (hkk _ _ (by decide) (by decide))) dX9_init_133 (fun ad => [some (.ref (ad 0)), some (.int 7)]) (fun ad => [.int 7, .ref (ad 22)]) rfl rfl (fun a b h => ⟨by first | rfl | simp only [h 0 (by decide +kernel), h 22 (by decide +kernel)], by first | rfl | simp only [h 0 (by decide +kernel), h 22 (by decide +kernel)]⟩) (fun ad34 e34 hC => ?_)
  rw [nG_nG] at hC ⊢
  have E34 : ∀ i, i < 1 → ad34 i = gad Γ i := fun i hi => (e34 i (Nat.lt_of_lt_of_le hi (by decide +kernel))).trans (E33 i hi)
  replace hC : CX (nG Γ ad34) cX9_init RX9 LK118 3 2 := hC
  show GX (nG Γ ad34) LK118 _ _ [some (.ref (ad34 0)), some (.int 7)] [.ref (ad34 59), .int 7, .ref (ad34 22)] μZ _
  refine GX_dup hC dX9_init_136 rfl ?_
  refine GX_callI (t := 59) hC K_Shelf_59 okiX8 ckX9_74 (alOK_nG hal) hao (by decide) (by decide) (kX_nG (hkk _ _ (by decide) (by decide))) (Nat.le_of_ble_eq_true rfl) dX9_init_137 (fun ad => [some (.ref (ad 0)), some (.int 7)]) (fun ad => [.ref (ad 59), .int 7, .ref (ad 22)]) rfl rfl (fun a b h => ⟨by first | rfl | simp only [h 0 (by decide +kernel), h 22 (by decide +kernel), h 59 (by decide +kernel)], by first | rfl | simp only [h 0 (by decide +kernel), h 22 (by decide +kernel), h 59 (by decide +kernel)]⟩) (fun ad35 e35 hC => ?_)
  rw [nG_nG] at hC ⊢
  have E35 : ∀ i, i < 1 → ad35 i = gad Γ i := fun i hi => (e35 i (Nat.lt_of_lt_of_le hi (by decide +kernel))).trans (E34 i hi)
  replace hC : CX (nG Γ ad35) cX9_init RX9 LK122 3 2 := hC
  show GX (nG Γ ad35) LK122 _ _ [some (.ref (ad35 0)), some (.int 7)] [.ref (ad35 59), .int 7, .ref (ad35 22)] μZ _
  refine GX_aast (a := 22) (b := 59) (L := LK122) hC (show LK122[22]? = some (.inr (3, 8, [some 38, some 41, some 44, some 47, some 50, some 53, some 56])) by decide +kernel) (show LK122[59]? = some (.inl (8, [none, none, none, some (some 60), some (some 61)])) by decide +kernel) (show vwCl[8]? = some (RX8, TX8, 5) from rfl) (by decide) [some 38, some 41, some 44, some 47, some 50, some 53, some 56, some 59] (by intro z; have hz : (7 : Int32).toNatClampNeg = 7 := rfl; rw [hz]; rcases z with _ | _ | _ | _ | _ | _ | _ | _ | z <;> simp) dX9_init_140 (fun hC => ?_)
  replace hC : CX (nG Γ ad35) cX9_init RX9 LK123 3 2 := hC
  show GX (nG Γ ad35) LK123 _ _ [some (.ref (ad35 0)), some (.int 7)] [] μZ _
  refine GX_iinc hC 8 [some (.ref (ad35 0)), some (.int 8)] dX9_init_141 rfl rfl (by decide) rfl rfl ?_
  refine GX_goto hC 119 dX9_init_144 (by decide) ?_
  refine GX_iload_n hC dX9_init_119 rfl ?_
  refine GX_aload_n hC dX9_init_120 rfl ?_
  refine GX_getR (a := 0) (b := 22) (L := LK123) hC fkX9_28 (show LK123[0]? = some (.inl (9, [some (some 1), some (some 8), some (some 15), none, some (some 22), some (some 23), some (some 24), some (some 28), some (some 30), some (some 34), some (some 36)])) by decide +kernel) rfl dX9_init_121 ?_
  show GX (nG Γ ad35) LK123 _ _ [some (.ref (ad35 0)), some (.int 8)] [.ref (ad35 22), .int 8] μZ _
  refine GX_alen (a := 22) (L := LK123) hC 8 (show LK123[22]? = some (.inr (3, 8, [some 38, some 41, some 44, some 47, some 50, some 53, some 56, some 59])) by decide +kernel) (by decide) rfl dX9_init_124 ?_
  refine GX_icmp_ge_P hC 147 dX9_init_125 (by decide) (fun _ => ?_) (fun q => absurd (by decide) q)
  exact GX_vretI hC (RXI_nG hR) E35 dX9_init_147
set_option maxRecDepth 100000 in
set_option maxHeartbeats 4000000 in
theorem K_NoTwoTouchModel_62 {l : Launch} : CnI l yX10_init cX10_init 1 1 29 14014 LK124 LK182 62 := by
  refine CnI.of (by decide +kernel) rfl (by decide) (fun Γ hl hC hR hkk hal hin hao => ?_)
  subst hl
  have E0 : ∀ i, i < 63 → gad Γ i = gad Γ i := fun _ _ => rfl
  replace hR : RXI Γ 63 29 14014 (gad Γ) LK182 := hR
  replace hC : CX Γ cX10_init RX10 LK124 1 1 := hC
  show GX Γ LK124 _ _ [some (.ref (gad Γ 62))] [] μZ _
  refine GX_aload_n hC dX10_init_0 rfl ?_
  refine GX_oinit hC oiX10_1 (by decide) (Nat.le_of_ble_eq_true rfl) dX10_init_1 ?_
  refine GX_aload_n hC dX10_init_4 rfl ?_
  refine GX_bipush hC 6 dX10_init_5 rfl ?_
  refine GX_newI hC 6 hal ac_int (by decide) rfl (by decide) (by decide +kernel) (hkk _ _ (by decide) (by decide)) dX10_init_7 (fun ad => [some (.ref (ad 62))]) (fun ad => [.ref (ad 62)]) rfl rfl (fun a b h => ⟨by first | rfl | simp only [h 62 (by decide +kernel)], by first | rfl | simp only [h 62 (by decide +kernel)]⟩) (fun ad1 e1 hC => ?_)
  have E1 : ∀ i, i < 63 → ad1 i = gad Γ i := fun i hi => (e1 i (Nat.lt_of_lt_of_le hi (by decide +kernel))).trans (E0 i hi)
  replace hC : CX (nG Γ ad1) cX10_init RX10 LK125 1 1 := hC
  show GX (nG Γ ad1) LK125 _ _ [some (.ref (ad1 62))] [.ref (ad1 63), .ref (ad1 62)] μZ _
  refine GX_putR (a := 62) (b := 63) (L := LK125) hC fkX10_7 (inInit_nG hin) (show vwCl[10]? = some (RX10, TX10, 49) from rfl) rfl rfl (tyX10_ok 1 (by decide)) (fun _ => rfl) (fun _ => rfl) (show LK125[62]? = some (.inl (10, [none, some none, some none, none, none, none, some none, some none, some none, some none, none, some none, none, none, none, none, none, some none, some none, some none, some none, some none, none, none, none, none, none, some none, some none, none, none, some none, some none, some none, some none, some none, some none, none, some none, some none, none, none, some none, some none, some none, some none, some none, some none, some none])) by decide +kernel) (by decide) dX10_init_9 (fun hC => ?_)
  replace hC : CX (nG Γ ad1) cX10_init RX10 LK126 1 1 := hC
  show GX (nG Γ ad1) LK126 _ _ [some (.ref (ad1 62))] [] μZ _
  refine GX_aload_n hC dX10_init_12 rfl ?_
  refine GX_bipush hC 36 dX10_init_13 rfl ?_
  refine GX_newI hC 36 (alOK_nG hal) ac_int (by decide) rfl (by decide) (by decide +kernel) (kX_nG (hkk _ _ (by decide) (by decide))) dX10_init_15 (fun ad => [some (.ref (ad 62))]) (fun ad => [.ref (ad 62)]) rfl rfl (fun a b h => ⟨by first | rfl | simp only [h 62 (by decide +kernel)], by first | rfl | simp only [h 62 (by decide +kernel)]⟩) (fun ad2 e2 hC => ?_)
  rw [nG_nG] at hC ⊢
  have E2 : ∀ i, i < 63 → ad2 i = gad Γ i := fun i hi => (e2 i (Nat.lt_of_lt_of_le hi (by decide +kernel))).trans (E1 i hi)
  replace hC : CX (nG Γ ad2) cX10_init RX10 LK127 1 1 := hC
  show GX (nG Γ ad2) LK127 _ _ [some (.ref (ad2 62))] [.ref (ad2 64), .ref (ad2 62)] μZ _
  refine GX_putR (a := 62) (b := 64) (L := LK127) hC fkX10_13 (inInit_nG hin) (show vwCl[10]? = some (RX10, TX10, 49) from rfl) rfl rfl (tyX10_ok 2 (by decide)) (fun _ => rfl) (fun _ => rfl) (show LK127[62]? = some (.inl (10, [none, some (some 63), some none, none, none, none, some none, some none, some none, some none, none, some none, none, none, none, none, none, some none, some none, some none, some none, some none, none, none, none, none, none, some none, some none, none, none, some none, some none, some none, some none, some none, some none, none, some none, some none, none, none, some none, some none, some none, some none, some none, some none, some none])) by decide +kernel) (by decide) dX10_init_17 (fun hC => ?_)
  replace hC : CX (nG Γ ad2) cX10_init RX10 LK128 1 1 := hC
  show GX (nG Γ ad2) LK128 _ _ [some (.ref (ad2 62))] [] μZ _
  refine GX_aload_n hC dX10_init_20 rfl ?_
  refine GX_iconst hC 3 dX10_init_21 rfl ?_
  refine GX_newI hC 3 (alOK_nG hal) ac_int (by decide) rfl (by decide) (by decide +kernel) (kX_nG (hkk _ _ (by decide) (by decide))) dX10_init_22 (fun ad => [some (.ref (ad 62))]) (fun ad => [.ref (ad 62)]) rfl rfl (fun a b h => ⟨by first | rfl | simp only [h 62 (by decide +kernel)], by first | rfl | simp only [h 62 (by decide +kernel)]⟩) (fun ad3 e3 hC => ?_)
  rw [nG_nG] at hC ⊢
  have E3 : ∀ i, i < 63 → ad3 i = gad Γ i := fun i hi => (e3 i (Nat.lt_of_lt_of_le hi (by decide +kernel))).trans (E2 i hi)
  replace hC : CX (nG Γ ad3) cX10_init RX10 LK129 1 1 := hC
  show GX (nG Γ ad3) LK129 _ _ [some (.ref (ad3 62))] [.ref (ad3 65), .ref (ad3 62)] μZ _
  refine GX_putR (a := 62) (b := 65) (L := LK129) hC fkX10_16 (inInit_nG hin) (show vwCl[10]? = some (RX10, TX10, 49) from rfl) rfl rfl (tyX10_ok 6 (by decide)) (fun _ => rfl) (fun _ => rfl) (show LK129[62]? = some (.inl (10, [none, some (some 63), some (some 64), none, none, none, some none, some none, some none, some none, none, some none, none, none, none, none, none, some none, some none, some none, some none, some none, none, none, none, none, none, some none, some none, none, none, some none, some none, some none, some none, some none, some none, none, some none, some none, none, none, some none, some none, some none, some none, some none, some none, some none])) by decide +kernel) (by decide) dX10_init_24 (fun hC => ?_)
  replace hC : CX (nG Γ ad3) cX10_init RX10 LK130 1 1 := hC
  show GX (nG Γ ad3) LK130 _ _ [some (.ref (ad3 62))] [] μZ _
  refine GX_aload_n hC dX10_init_27 rfl ?_
  refine GX_iconst hC 3 dX10_init_28 rfl ?_
  refine GX_newI hC 3 (alOK_nG hal) ac_int (by decide) rfl (by decide) (by decide +kernel) (kX_nG (hkk _ _ (by decide) (by decide))) dX10_init_29 (fun ad => [some (.ref (ad 62))]) (fun ad => [.ref (ad 62)]) rfl rfl (fun a b h => ⟨by first | rfl | simp only [h 62 (by decide +kernel)], by first | rfl | simp only [h 62 (by decide +kernel)]⟩) (fun ad4 e4 hC => ?_)
  rw [nG_nG] at hC ⊢
  have E4 : ∀ i, i < 63 → ad4 i = gad Γ i := fun i hi => (e4 i (Nat.lt_of_lt_of_le hi (by decide +kernel))).trans (E3 i hi)
  replace hC : CX (nG Γ ad4) cX10_init RX10 LK131 1 1 := hC
  show GX (nG Γ ad4) LK131 _ _ [some (.ref (ad4 62))] [.ref (ad4 66), .ref (ad4 62)] μZ _
  refine GX_putR (a := 62) (b := 66) (L := LK131) hC fkX10_19 (inInit_nG hin) (show vwCl[10]? = some (RX10, TX10, 49) from rfl) rfl rfl (tyX10_ok 7 (by decide)) (fun _ => rfl) (fun _ => rfl) (show LK131[62]? = some (.inl (10, [none, some (some 63), some (some 64), none, none, none, some (some 65), some none, some none, some none, none, some none, none, none, none, none, none, some none, some none, some none, some none, some none, none, none, none, none, none, some none, some none, none, none, some none, some none, some none, some none, some none, some none, none, some none, some none, none, none, some none, some none, some none, some none, some none, some none, some none])) by decide +kernel) (by decide) dX10_init_31 (fun hC => ?_)
  replace hC : CX (nG Γ ad4) cX10_init RX10 LK132 1 1 := hC
  show GX (nG Γ ad4) LK132 _ _ [some (.ref (ad4 62))] [] μZ _
  refine GX_aload_n hC dX10_init_34 rfl ?_
  refine GX_bipush hC 18 dX10_init_35 rfl ?_
  refine GX_newI hC 18 (alOK_nG hal) ac_int (by decide) rfl (by decide) (by decide +kernel) (kX_nG (hkk _ _ (by decide) (by decide))) dX10_init_37 (fun ad => [some (.ref (ad 62))]) (fun ad => [.ref (ad 62)]) rfl rfl (fun a b h => ⟨by first | rfl | simp only [h 62 (by decide +kernel)], by first | rfl | simp only [h 62 (by decide +kernel)]⟩) (fun ad5 e5 hC => ?_)
  rw [nG_nG] at hC ⊢
  have E5 : ∀ i, i < 63 → ad5 i = gad Γ i := fun i hi => (e5 i (Nat.lt_of_lt_of_le hi (by decide +kernel))).trans (E4 i hi)
  replace hC : CX (nG Γ ad5) cX10_init RX10 LK133 1 1 := hC
  show GX (nG Γ ad5) LK133 _ _ [some (.ref (ad5 62))] [.ref (ad5 67), .ref (ad5 62)] μZ _
  refine GX_putR (a := 62) (b := 67) (L := LK133) hC fkX10_22 (inInit_nG hin) (show vwCl[10]? = some (RX10, TX10, 49) from rfl) rfl rfl (tyX10_ok 8 (by decide)) (fun _ => rfl) (fun _ => rfl) (show LK133[62]? = some (.inl (10, [none, some (some 63), some (some 64), none, none, none, some (some 65), some (some 66), some none, some none, none, some none, none, none, none, none, none, some none, some none, some none, some none, some none, none, none, none, none, none, some none, some none, none, none, some none, some none, some none, some none, some none, some none, none, some none, some none, none, none, some none, some none, some none, some none, some none, some none, some none])) by decide +kernel) (by decide) dX10_init_39 (fun hC => ?_)
  replace hC : CX (nG Γ ad5) cX10_init RX10 LK134 1 1 := hC
  show GX (nG Γ ad5) LK134 _ _ [some (.ref (ad5 62))] [] μZ _
  refine GX_aload_n hC dX10_init_42 rfl ?_
  refine GX_bipush hC 6 dX10_init_43 rfl ?_
  refine GX_newI hC 6 (alOK_nG hal) ac_int (by decide) rfl (by decide) (by decide +kernel) (kX_nG (hkk _ _ (by decide) (by decide))) dX10_init_45 (fun ad => [some (.ref (ad 62))]) (fun ad => [.ref (ad 62)]) rfl rfl (fun a b h => ⟨by first | rfl | simp only [h 62 (by decide +kernel)], by first | rfl | simp only [h 62 (by decide +kernel)]⟩) (fun ad6 e6 hC => ?_)
  rw [nG_nG] at hC ⊢
  have E6 : ∀ i, i < 63 → ad6 i = gad Γ i := fun i hi => (e6 i (Nat.lt_of_lt_of_le hi (by decide +kernel))).trans (E5 i hi)
  replace hC : CX (nG Γ ad6) cX10_init RX10 LK135 1 1 := hC
  show GX (nG Γ ad6) LK135 _ _ [some (.ref (ad6 62))] [.ref (ad6 68), .ref (ad6 62)] μZ _
  refine GX_putR (a := 62) (b := 68) (L := LK135) hC fkX10_25 (inInit_nG hin) (show vwCl[10]? = some (RX10, TX10, 49) from rfl) rfl rfl (tyX10_ok 9 (by decide)) (fun _ => rfl) (fun _ => rfl) (show LK135[62]? = some (.inl (10, [none, some (some 63), some (some 64), none, none, none, some (some 65), some (some 66), some (some 67), some none, none, some none, none, none, none, none, none, some none, some none, some none, some none, some none, none, none, none, none, none, some none, some none, none, none, some none, some none, some none, some none, some none, some none, none, some none, some none, none, none, some none, some none, some none, some none, some none, some none, some none])) by decide +kernel) (by decide) dX10_init_47 (fun hC => ?_)
  replace hC : CX (nG Γ ad6) cX10_init RX10 LK136 1 1 := hC
  show GX (nG Γ ad6) LK136 _ _ [some (.ref (ad6 62))] [] μZ _
  refine GX_aload_n hC dX10_init_50 rfl ?_
  refine GX_bipush hC 6 dX10_init_51 rfl ?_
  refine GX_newI hC 6 (alOK_nG hal) ac_int (by decide) rfl (by decide) (by decide +kernel) (kX_nG (hkk _ _ (by decide) (by decide))) dX10_init_53 (fun ad => [some (.ref (ad 62))]) (fun ad => [.ref (ad 62)]) rfl rfl (fun a b h => ⟨by first | rfl | simp only [h 62 (by decide +kernel)], by first | rfl | simp only [h 62 (by decide +kernel)]⟩) (fun ad7 e7 hC => ?_)
  rw [nG_nG] at hC ⊢
  have E7 : ∀ i, i < 63 → ad7 i = gad Γ i := fun i hi => (e7 i (Nat.lt_of_lt_of_le hi (by decide +kernel))).trans (E6 i hi)
  replace hC : CX (nG Γ ad7) cX10_init RX10 LK137 1 1 := hC
  show GX (nG Γ ad7) LK137 _ _ [some (.ref (ad7 62))] [.ref (ad7 69), .ref (ad7 62)] μZ _
  refine GX_putR (a := 62) (b := 69) (L := LK137) hC fkX10_28 (inInit_nG hin) (show vwCl[10]? = some (RX10, TX10, 49) from rfl) rfl rfl (tyX10_ok 11 (by decide)) (fun _ => rfl) (fun _ => rfl) (show LK137[62]? = some (.inl (10, [none, some (some 63), some (some 64), none, none, none, some (some 65), some (some 66), some (some 67), some (some 68), none, some none, none, none, none, none, none, some none, some none, some none, some none, some none, none, none, none, none, none, some none, some none, none, none, some none, some none, some none, some none, some none, some none, none, some none, some none, none, none, some none, some none, some none, some none, some none, some none, some none])) by decide +kernel) (by decide) dX10_init_55 (fun hC => ?_)
  replace hC : CX (nG Γ ad7) cX10_init RX10 LK138 1 1 := hC
  show GX (nG Γ ad7) LK138 _ _ [some (.ref (ad7 62))] [] μZ _
  refine GX_aload_n hC dX10_init_58 rfl ?_
  refine GX_bipush hC 51 dX10_init_59 rfl ?_
  refine GX_newI hC 51 (alOK_nG hal) ac_int (by decide) rfl (by decide) (by decide +kernel) (kX_nG (hkk _ _ (by decide) (by decide))) dX10_init_61 (fun ad => [some (.ref (ad 62))]) (fun ad => [.ref (ad 62)]) rfl rfl (fun a b h => ⟨by first | rfl | simp only [h 62 (by decide +kernel)], by first | rfl | simp only [h 62 (by decide +kernel)]⟩) (fun ad8 e8 hC => ?_)
  rw [nG_nG] at hC ⊢
  have E8 : ∀ i, i < 63 → ad8 i = gad Γ i := fun i hi => (e8 i (Nat.lt_of_lt_of_le hi (by decide +kernel))).trans (E7 i hi)
  replace hC : CX (nG Γ ad8) cX10_init RX10 LK139 1 1 := hC
  show GX (nG Γ ad8) LK139 _ _ [some (.ref (ad8 62))] [.ref (ad8 70), .ref (ad8 62)] μZ _
  refine GX_putR (a := 62) (b := 70) (L := LK139) hC fkX10_31 (inInit_nG hin) (show vwCl[10]? = some (RX10, TX10, 49) from rfl) rfl rfl (tyX10_ok 17 (by decide)) (fun _ => rfl) (fun _ => rfl) (show LK139[62]? = some (.inl (10, [none, some (some 63), some (some 64), none, none, none, some (some 65), some (some 66), some (some 67), some (some 68), none, some (some 69), none, none, none, none, none, some none, some none, some none, some none, some none, none, none, none, none, none, some none, some none, none, none, some none, some none, some none, some none, some none, some none, none, some none, some none, none, none, some none, some none, some none, some none, some none, some none, some none])) by decide +kernel) (by decide) dX10_init_63 (fun hC => ?_)
  replace hC : CX (nG Γ ad8) cX10_init RX10 LK140 1 1 := hC
  show GX (nG Γ ad8) LK140 _ _ [some (.ref (ad8 62))] [] μZ _
  refine GX_aload_n hC dX10_init_66 rfl ?_
  refine GX_bipush hC 51 dX10_init_67 rfl ?_
  refine GX_newI hC 51 (alOK_nG hal) ac_int (by decide) rfl (by decide) (by decide +kernel) (kX_nG (hkk _ _ (by decide) (by decide))) dX10_init_69 (fun ad => [some (.ref (ad 62))]) (fun ad => [.ref (ad 62)]) rfl rfl (fun a b h => ⟨by first | rfl | simp only [h 62 (by decide +kernel)], by first | rfl | simp only [h 62 (by decide +kernel)]⟩) (fun ad9 e9 hC => ?_)
  rw [nG_nG] at hC ⊢
  have E9 : ∀ i, i < 63 → ad9 i = gad Γ i := fun i hi => (e9 i (Nat.lt_of_lt_of_le hi (by decide +kernel))).trans (E8 i hi)
  replace hC : CX (nG Γ ad9) cX10_init RX10 LK141 1 1 := hC
  show GX (nG Γ ad9) LK141 _ _ [some (.ref (ad9 62))] [.ref (ad9 71), .ref (ad9 62)] μZ _
  refine GX_putR (a := 62) (b := 71) (L := LK141) hC fkX10_34 (inInit_nG hin) (show vwCl[10]? = some (RX10, TX10, 49) from rfl) rfl rfl (tyX10_ok 18 (by decide)) (fun _ => rfl) (fun _ => rfl) (show LK141[62]? = some (.inl (10, [none, some (some 63), some (some 64), none, none, none, some (some 65), some (some 66), some (some 67), some (some 68), none, some (some 69), none, none, none, none, none, some (some 70), some none, some none, some none, some none, none, none, none, none, none, some none, some none, none, none, some none, some none, some none, some none, some none, some none, none, some none, some none, none, none, some none, some none, some none, some none, some none, some none, some none])) by decide +kernel) (by decide) dX10_init_71 (fun hC => ?_)
  replace hC : CX (nG Γ ad9) cX10_init RX10 LK142 1 1 := hC
  show GX (nG Γ ad9) LK142 _ _ [some (.ref (ad9 62))] [] μZ _
  refine GX_aload_n hC dX10_init_74 rfl ?_
  refine GX_bipush hC 51 dX10_init_75 rfl ?_
  refine GX_newI hC 51 (alOK_nG hal) ac_int (by decide) rfl (by decide) (by decide +kernel) (kX_nG (hkk _ _ (by decide) (by decide))) dX10_init_77 (fun ad => [some (.ref (ad 62))]) (fun ad => [.ref (ad 62)]) rfl rfl (fun a b h => ⟨by first | rfl | simp only [h 62 (by decide +kernel)], by first | rfl | simp only [h 62 (by decide +kernel)]⟩) (fun ad10 e10 hC => ?_)
  rw [nG_nG] at hC ⊢
  have E10 : ∀ i, i < 63 → ad10 i = gad Γ i := fun i hi => (e10 i (Nat.lt_of_lt_of_le hi (by decide +kernel))).trans (E9 i hi)
  replace hC : CX (nG Γ ad10) cX10_init RX10 LK143 1 1 := hC
  show GX (nG Γ ad10) LK143 _ _ [some (.ref (ad10 62))] [.ref (ad10 72), .ref (ad10 62)] μZ _
  refine GX_putR (a := 62) (b := 72) (L := LK143) hC fkX10_37 (inInit_nG hin) (show vwCl[10]? = some (RX10, TX10, 49) from rfl) rfl rfl (tyX10_ok 19 (by decide)) (fun _ => rfl) (fun _ => rfl) (show LK143[62]? = some (.inl (10, [none, some (some 63), some (some 64), none, none, none, some (some 65), some (some 66), some (some 67), some (some 68), none, some (some 69), none, none, none, none, none, some (some 70), some (some 71), some none, some none, some none, none, none, none, none, none, some none, some none, none, none, some none, some none, some none, some none, some none, some none, none, some none, some none, none, none, some none, some none, some none, some none, some none, some none, some none])) by decide +kernel) (by decide) dX10_init_79 (fun hC => ?_)
  replace hC : CX (nG Γ ad10) cX10_init RX10 LK144 1 1 := hC
  show GX (nG Γ ad10) LK144 _ _ [some (.ref (ad10 62))] [] μZ _
  refine GX_aload_n hC dX10_init_82 rfl ?_
  refine GX_bipush hC 51 dX10_init_83 rfl ?_
  refine GX_newI hC 51 (alOK_nG hal) ac_int (by decide) rfl (by decide) (by decide +kernel) (kX_nG (hkk _ _ (by decide) (by decide))) dX10_init_85 (fun ad => [some (.ref (ad 62))]) (fun ad => [.ref (ad 62)]) rfl rfl (fun a b h => ⟨by first | rfl | simp only [h 62 (by decide +kernel)], by first | rfl | simp only [h 62 (by decide +kernel)]⟩) (fun ad11 e11 hC => ?_)
  rw [nG_nG] at hC ⊢
  have E11 : ∀ i, i < 63 → ad11 i = gad Γ i := fun i hi => (e11 i (Nat.lt_of_lt_of_le hi (by decide +kernel))).trans (E10 i hi)
  replace hC : CX (nG Γ ad11) cX10_init RX10 LK145 1 1 := hC
  show GX (nG Γ ad11) LK145 _ _ [some (.ref (ad11 62))] [.ref (ad11 73), .ref (ad11 62)] μZ _
  refine GX_putR (a := 62) (b := 73) (L := LK145) hC fkX10_40 (inInit_nG hin) (show vwCl[10]? = some (RX10, TX10, 49) from rfl) rfl rfl (tyX10_ok 20 (by decide)) (fun _ => rfl) (fun _ => rfl) (show LK145[62]? = some (.inl (10, [none, some (some 63), some (some 64), none, none, none, some (some 65), some (some 66), some (some 67), some (some 68), none, some (some 69), none, none, none, none, none, some (some 70), some (some 71), some (some 72), some none, some none, none, none, none, none, none, some none, some none, none, none, some none, some none, some none, some none, some none, some none, none, some none, some none, none, none, some none, some none, some none, some none, some none, some none, some none])) by decide +kernel) (by decide) dX10_init_87 (fun hC => ?_)
  replace hC : CX (nG Γ ad11) cX10_init RX10 LK146 1 1 := hC
  show GX (nG Γ ad11) LK146 _ _ [some (.ref (ad11 62))] [] μZ _
  refine GX_aload_n hC dX10_init_90 rfl ?_
  refine GX_bipush hC 51 dX10_init_91 rfl ?_
  refine GX_newI hC 51 (alOK_nG hal) ac_int (by decide) rfl (by decide) (by decide +kernel) (kX_nG (hkk _ _ (by decide) (by decide))) dX10_init_93 (fun ad => [some (.ref (ad 62))]) (fun ad => [.ref (ad 62)]) rfl rfl (fun a b h => ⟨by first | rfl | simp only [h 62 (by decide +kernel)], by first | rfl | simp only [h 62 (by decide +kernel)]⟩) (fun ad12 e12 hC => ?_)
  rw [nG_nG] at hC ⊢
  have E12 : ∀ i, i < 63 → ad12 i = gad Γ i := fun i hi => (e12 i (Nat.lt_of_lt_of_le hi (by decide +kernel))).trans (E11 i hi)
  replace hC : CX (nG Γ ad12) cX10_init RX10 LK147 1 1 := hC
  show GX (nG Γ ad12) LK147 _ _ [some (.ref (ad12 62))] [.ref (ad12 74), .ref (ad12 62)] μZ _
  refine GX_putR (a := 62) (b := 74) (L := LK147) hC fkX10_43 (inInit_nG hin) (show vwCl[10]? = some (RX10, TX10, 49) from rfl) rfl rfl (tyX10_ok 21 (by decide)) (fun _ => rfl) (fun _ => rfl) (show LK147[62]? = some (.inl (10, [none, some (some 63), some (some 64), none, none, none, some (some 65), some (some 66), some (some 67), some (some 68), none, some (some 69), none, none, none, none, none, some (some 70), some (some 71), some (some 72), some (some 73), some none, none, none, none, none, none, some none, some none, none, none, some none, some none, some none, some none, some none, some none, none, some none, some none, none, none, some none, some none, some none, some none, some none, some none, some none])) by decide +kernel) (by decide) dX10_init_95 (fun hC => ?_)
  replace hC : CX (nG Γ ad12) cX10_init RX10 LK148 1 1 := hC
  show GX (nG Γ ad12) LK148 _ _ [some (.ref (ad12 62))] [] μZ _
  refine GX_aload_n hC dX10_init_98 rfl ?_
  refine GX_iconst hC 3 dX10_init_99 rfl ?_
  refine GX_newI hC 3 (alOK_nG hal) ac_int (by decide) rfl (by decide) (by decide +kernel) (kX_nG (hkk _ _ (by decide) (by decide))) dX10_init_100 (fun ad => [some (.ref (ad 62))]) (fun ad => [.ref (ad 62)]) rfl rfl (fun a b h => ⟨by first | rfl | simp only [h 62 (by decide +kernel)], by first | rfl | simp only [h 62 (by decide +kernel)]⟩) (fun ad13 e13 hC => ?_)
  rw [nG_nG] at hC ⊢
  have E13 : ∀ i, i < 63 → ad13 i = gad Γ i := fun i hi => (e13 i (Nat.lt_of_lt_of_le hi (by decide +kernel))).trans (E12 i hi)
  replace hC : CX (nG Γ ad13) cX10_init RX10 LK149 1 1 := hC
  show GX (nG Γ ad13) LK149 _ _ [some (.ref (ad13 62))] [.ref (ad13 75), .ref (ad13 62)] μZ _
  refine GX_putR (a := 62) (b := 75) (L := LK149) hC fkX10_46 (inInit_nG hin) (show vwCl[10]? = some (RX10, TX10, 49) from rfl) rfl rfl (tyX10_ok 27 (by decide)) (fun _ => rfl) (fun _ => rfl) (show LK149[62]? = some (.inl (10, [none, some (some 63), some (some 64), none, none, none, some (some 65), some (some 66), some (some 67), some (some 68), none, some (some 69), none, none, none, none, none, some (some 70), some (some 71), some (some 72), some (some 73), some (some 74), none, none, none, none, none, some none, some none, none, none, some none, some none, some none, some none, some none, some none, none, some none, some none, none, none, some none, some none, some none, some none, some none, some none, some none])) by decide +kernel) (by decide) dX10_init_102 (fun hC => ?_)
  replace hC : CX (nG Γ ad13) cX10_init RX10 LK150 1 1 := hC
  show GX (nG Γ ad13) LK150 _ _ [some (.ref (ad13 62))] [] μZ _
  refine GX_aload_n hC dX10_init_105 rfl ?_
  refine GX_bipush hC 6 dX10_init_106 rfl ?_
  refine GX_newI hC 6 (alOK_nG hal) ac_int (by decide) rfl (by decide) (by decide +kernel) (kX_nG (hkk _ _ (by decide) (by decide))) dX10_init_108 (fun ad => [some (.ref (ad 62))]) (fun ad => [.ref (ad 62)]) rfl rfl (fun a b h => ⟨by first | rfl | simp only [h 62 (by decide +kernel)], by first | rfl | simp only [h 62 (by decide +kernel)]⟩) (fun ad14 e14 hC => ?_)
  rw [nG_nG] at hC ⊢
  have E14 : ∀ i, i < 63 → ad14 i = gad Γ i := fun i hi => (e14 i (Nat.lt_of_lt_of_le hi (by decide +kernel))).trans (E13 i hi)
  replace hC : CX (nG Γ ad14) cX10_init RX10 LK151 1 1 := hC
  show GX (nG Γ ad14) LK151 _ _ [some (.ref (ad14 62))] [.ref (ad14 76), .ref (ad14 62)] μZ _
  refine GX_putR (a := 62) (b := 76) (L := LK151) hC fkX10_49 (inInit_nG hin) (show vwCl[10]? = some (RX10, TX10, 49) from rfl) rfl rfl (tyX10_ok 28 (by decide)) (fun _ => rfl) (fun _ => rfl) (show LK151[62]? = some (.inl (10, [none, some (some 63), some (some 64), none, none, none, some (some 65), some (some 66), some (some 67), some (some 68), none, some (some 69), none, none, none, none, none, some (some 70), some (some 71), some (some 72), some (some 73), some (some 74), none, none, none, none, none, some (some 75), some none, none, none, some none, some none, some none, some none, some none, some none, none, some none, some none, none, none, some none, some none, some none, some none, some none, some none, some none])) by decide +kernel) (by decide) dX10_init_110 (fun hC => ?_)
  replace hC : CX (nG Γ ad14) cX10_init RX10 LK152 1 1 := hC
  show GX (nG Γ ad14) LK152 _ _ [some (.ref (ad14 62))] [] μZ _
  refine GX_aload_n hC dX10_init_113 rfl ?_
  refine GX_sipush hC 4096 dX10_init_114 rfl ?_
  refine GX_newI hC 4096 (alOK_nG hal) ac_int (by decide) rfl (by decide) (by decide +kernel) (kX_nG (hkk _ _ (by decide) (by decide))) dX10_init_117 (fun ad => [some (.ref (ad 62))]) (fun ad => [.ref (ad 62)]) rfl rfl (fun a b h => ⟨by first | rfl | simp only [h 62 (by decide +kernel)], by first | rfl | simp only [h 62 (by decide +kernel)]⟩) (fun ad15 e15 hC => ?_)
  rw [nG_nG] at hC ⊢
  have E15 : ∀ i, i < 63 → ad15 i = gad Γ i := fun i hi => (e15 i (Nat.lt_of_lt_of_le hi (by decide +kernel))).trans (E14 i hi)
  replace hC : CX (nG Γ ad15) cX10_init RX10 LK153 1 1 := hC
  show GX (nG Γ ad15) LK153 _ _ [some (.ref (ad15 62))] [.ref (ad15 77), .ref (ad15 62)] μZ _
  refine GX_putR (a := 62) (b := 77) (L := LK153) hC fkX10_52 (inInit_nG hin) (show vwCl[10]? = some (RX10, TX10, 49) from rfl) rfl rfl (tyX10_ok 31 (by decide)) (fun _ => rfl) (fun _ => rfl) (show LK153[62]? = some (.inl (10, [none, some (some 63), some (some 64), none, none, none, some (some 65), some (some 66), some (some 67), some (some 68), none, some (some 69), none, none, none, none, none, some (some 70), some (some 71), some (some 72), some (some 73), some (some 74), none, none, none, none, none, some (some 75), some (some 76), none, none, some none, some none, some none, some none, some none, some none, none, some none, some none, none, none, some none, some none, some none, some none, some none, some none, some none])) by decide +kernel) (by decide) dX10_init_119 (fun hC => ?_)
  replace hC : CX (nG Γ ad15) cX10_init RX10 LK154 1 1 := hC
  show GX (nG Γ ad15) LK154 _ _ [some (.ref (ad15 62))] [] μZ _
  refine GX_aload_n hC dX10_init_122 rfl ?_
  refine GX_sipush hC 4096 dX10_init_123 rfl ?_
  refine GX_newI hC 4096 (alOK_nG hal) ac_int (by decide) rfl (by decide) (by decide +kernel) (kX_nG (hkk _ _ (by decide) (by decide))) dX10_init_126 (fun ad => [some (.ref (ad 62))]) (fun ad => [.ref (ad 62)]) rfl rfl (fun a b h => ⟨by first | rfl | simp only [h 62 (by decide +kernel)], by first | rfl | simp only [h 62 (by decide +kernel)]⟩) (fun ad16 e16 hC => ?_)
  rw [nG_nG] at hC ⊢
  have E16 : ∀ i, i < 63 → ad16 i = gad Γ i := fun i hi => (e16 i (Nat.lt_of_lt_of_le hi (by decide +kernel))).trans (E15 i hi)
  replace hC : CX (nG Γ ad16) cX10_init RX10 LK155 1 1 := hC
  show GX (nG Γ ad16) LK155 _ _ [some (.ref (ad16 62))] [.ref (ad16 78), .ref (ad16 62)] μZ _
  refine GX_putR (a := 62) (b := 78) (L := LK155) hC fkX10_55 (inInit_nG hin) (show vwCl[10]? = some (RX10, TX10, 49) from rfl) rfl rfl (tyX10_ok 32 (by decide)) (fun _ => rfl) (fun _ => rfl) (show LK155[62]? = some (.inl (10, [none, some (some 63), some (some 64), none, none, none, some (some 65), some (some 66), some (some 67), some (some 68), none, some (some 69), none, none, none, none, none, some (some 70), some (some 71), some (some 72), some (some 73), some (some 74), none, none, none, none, none, some (some 75), some (some 76), none, none, some (some 77), some none, some none, some none, some none, some none, none, some none, some none, none, none, some none, some none, some none, some none, some none, some none, some none])) by decide +kernel) (by decide) dX10_init_128 (fun hC => ?_)
  replace hC : CX (nG Γ ad16) cX10_init RX10 LK156 1 1 := hC
  show GX (nG Γ ad16) LK156 _ _ [some (.ref (ad16 62))] [] μZ _
  refine GX_aload_n hC dX10_init_131 rfl ?_
  refine GX_sipush hC 1458 dX10_init_132 rfl ?_
  refine GX_newZ hC 1458 (alOK_nG hal) ac_boolean (by decide) rfl (by decide) (by decide +kernel) (kX_nG (hkk _ _ (by decide) (by decide))) dX10_init_135 (fun ad => [some (.ref (ad 62))]) (fun ad => [.ref (ad 62)]) rfl rfl (fun a b h => ⟨by first | rfl | simp only [h 62 (by decide +kernel)], by first | rfl | simp only [h 62 (by decide +kernel)]⟩) (fun ad17 e17 hC => ?_)
  rw [nG_nG] at hC ⊢
  have E17 : ∀ i, i < 63 → ad17 i = gad Γ i := fun i hi => (e17 i (Nat.lt_of_lt_of_le hi (by decide +kernel))).trans (E16 i hi)
  replace hC : CX (nG Γ ad17) cX10_init RX10 LK157 1 1 := hC
  show GX (nG Γ ad17) LK157 _ _ [some (.ref (ad17 62))] [.ref (ad17 79), .ref (ad17 62)] μZ _
  refine GX_putR (a := 62) (b := 79) (L := LK157) hC fkX10_58 (inInit_nG hin) (show vwCl[10]? = some (RX10, TX10, 49) from rfl) rfl rfl (tyX10_ok 33 (by decide)) (fun _ => rfl) (fun _ => rfl) (show LK157[62]? = some (.inl (10, [none, some (some 63), some (some 64), none, none, none, some (some 65), some (some 66), some (some 67), some (some 68), none, some (some 69), none, none, none, none, none, some (some 70), some (some 71), some (some 72), some (some 73), some (some 74), none, none, none, none, none, some (some 75), some (some 76), none, none, some (some 77), some (some 78), some none, some none, some none, some none, none, some none, some none, none, none, some none, some none, some none, some none, some none, some none, some none])) by decide +kernel) (by decide) dX10_init_137 (fun hC => ?_)
  replace hC : CX (nG Γ ad17) cX10_init RX10 LK158 1 1 := hC
  show GX (nG Γ ad17) LK158 _ _ [some (.ref (ad17 62))] [] μZ _
  refine GX_aload_n hC dX10_init_140 rfl ?_
  refine GX_sipush hC 1458 dX10_init_141 rfl ?_
  refine GX_newI hC 1458 (alOK_nG hal) ac_int (by decide) rfl (by decide) (by decide +kernel) (kX_nG (hkk _ _ (by decide) (by decide))) dX10_init_144 (fun ad => [some (.ref (ad 62))]) (fun ad => [.ref (ad 62)]) rfl rfl (fun a b h => ⟨by first | rfl | simp only [h 62 (by decide +kernel)], by first | rfl | simp only [h 62 (by decide +kernel)]⟩) (fun ad18 e18 hC => ?_)
  rw [nG_nG] at hC ⊢
  have E18 : ∀ i, i < 63 → ad18 i = gad Γ i := fun i hi => (e18 i (Nat.lt_of_lt_of_le hi (by decide +kernel))).trans (E17 i hi)
  replace hC : CX (nG Γ ad18) cX10_init RX10 LK159 1 1 := hC
  show GX (nG Γ ad18) LK159 _ _ [some (.ref (ad18 62))] [.ref (ad18 80), .ref (ad18 62)] μZ _
  refine GX_putR (a := 62) (b := 80) (L := LK159) hC fkX10_62 (inInit_nG hin) (show vwCl[10]? = some (RX10, TX10, 49) from rfl) rfl rfl (tyX10_ok 34 (by decide)) (fun _ => rfl) (fun _ => rfl) (show LK159[62]? = some (.inl (10, [none, some (some 63), some (some 64), none, none, none, some (some 65), some (some 66), some (some 67), some (some 68), none, some (some 69), none, none, none, none, none, some (some 70), some (some 71), some (some 72), some (some 73), some (some 74), none, none, none, none, none, some (some 75), some (some 76), none, none, some (some 77), some (some 78), some (some 79), some none, some none, some none, none, some none, some none, none, none, some none, some none, some none, some none, some none, some none, some none])) by decide +kernel) (by decide) dX10_init_146 (fun hC => ?_)
  replace hC : CX (nG Γ ad18) cX10_init RX10 LK160 1 1 := hC
  show GX (nG Γ ad18) LK160 _ _ [some (.ref (ad18 62))] [] μZ _
  refine GX_aload_n hC dX10_init_149 rfl ?_
  refine GX_bipush hC 6 dX10_init_150 rfl ?_
  refine GX_newI hC 6 (alOK_nG hal) ac_int (by decide) rfl (by decide) (by decide +kernel) (kX_nG (hkk _ _ (by decide) (by decide))) dX10_init_152 (fun ad => [some (.ref (ad 62))]) (fun ad => [.ref (ad 62)]) rfl rfl (fun a b h => ⟨by first | rfl | simp only [h 62 (by decide +kernel)], by first | rfl | simp only [h 62 (by decide +kernel)]⟩) (fun ad19 e19 hC => ?_)
  rw [nG_nG] at hC ⊢
  have E19 : ∀ i, i < 63 → ad19 i = gad Γ i := fun i hi => (e19 i (Nat.lt_of_lt_of_le hi (by decide +kernel))).trans (E18 i hi)
  replace hC : CX (nG Γ ad19) cX10_init RX10 LK161 1 1 := hC
  show GX (nG Γ ad19) LK161 _ _ [some (.ref (ad19 62))] [.ref (ad19 81), .ref (ad19 62)] μZ _
  refine GX_putR (a := 62) (b := 81) (L := LK161) hC fkX10_65 (inInit_nG hin) (show vwCl[10]? = some (RX10, TX10, 49) from rfl) rfl rfl (tyX10_ok 35 (by decide)) (fun _ => rfl) (fun _ => rfl) (show LK161[62]? = some (.inl (10, [none, some (some 63), some (some 64), none, none, none, some (some 65), some (some 66), some (some 67), some (some 68), none, some (some 69), none, none, none, none, none, some (some 70), some (some 71), some (some 72), some (some 73), some (some 74), none, none, none, none, none, some (some 75), some (some 76), none, none, some (some 77), some (some 78), some (some 79), some (some 80), some none, some none, none, some none, some none, none, none, some none, some none, some none, some none, some none, some none, some none])) by decide +kernel) (by decide) dX10_init_154 (fun hC => ?_)
  replace hC : CX (nG Γ ad19) cX10_init RX10 LK162 1 1 := hC
  show GX (nG Γ ad19) LK162 _ _ [some (.ref (ad19 62))] [] μZ _
  refine GX_aload_n hC dX10_init_157 rfl ?_
  refine GX_sipush hC 1458 dX10_init_158 rfl ?_
  refine GX_newZ hC 1458 (alOK_nG hal) ac_boolean (by decide) rfl (by decide) (by decide +kernel) (kX_nG (hkk _ _ (by decide) (by decide))) dX10_init_161 (fun ad => [some (.ref (ad 62))]) (fun ad => [.ref (ad 62)]) rfl rfl (fun a b h => ⟨by first | rfl | simp only [h 62 (by decide +kernel)], by first | rfl | simp only [h 62 (by decide +kernel)]⟩) (fun ad20 e20 hC => ?_)
  rw [nG_nG] at hC ⊢
  have E20 : ∀ i, i < 63 → ad20 i = gad Γ i := fun i hi => (e20 i (Nat.lt_of_lt_of_le hi (by decide +kernel))).trans (E19 i hi)
  replace hC : CX (nG Γ ad20) cX10_init RX10 LK163 1 1 := hC
  show GX (nG Γ ad20) LK163 _ _ [some (.ref (ad20 62))] [.ref (ad20 82), .ref (ad20 62)] μZ _
  refine GX_putR (a := 62) (b := 82) (L := LK163) hC fkX10_68 (inInit_nG hin) (show vwCl[10]? = some (RX10, TX10, 49) from rfl) rfl rfl (tyX10_ok 36 (by decide)) (fun _ => rfl) (fun _ => rfl) (show LK163[62]? = some (.inl (10, [none, some (some 63), some (some 64), none, none, none, some (some 65), some (some 66), some (some 67), some (some 68), none, some (some 69), none, none, none, none, none, some (some 70), some (some 71), some (some 72), some (some 73), some (some 74), none, none, none, none, none, some (some 75), some (some 76), none, none, some (some 77), some (some 78), some (some 79), some (some 80), some (some 81), some none, none, some none, some none, none, none, some none, some none, some none, some none, some none, some none, some none])) by decide +kernel) (by decide) dX10_init_163 (fun hC => ?_)
  replace hC : CX (nG Γ ad20) cX10_init RX10 LK164 1 1 := hC
  show GX (nG Γ ad20) LK164 _ _ [some (.ref (ad20 62))] [] μZ _
  refine GX_aload_n hC dX10_init_166 rfl ?_
  refine GX_bipush hC 80 dX10_init_167 rfl ?_
  refine GX_newI hC 80 (alOK_nG hal) ac_int (by decide) rfl (by decide) (by decide +kernel) (kX_nG (hkk _ _ (by decide) (by decide))) dX10_init_169 (fun ad => [some (.ref (ad 62))]) (fun ad => [.ref (ad 62)]) rfl rfl (fun a b h => ⟨by first | rfl | simp only [h 62 (by decide +kernel)], by first | rfl | simp only [h 62 (by decide +kernel)]⟩) (fun ad21 e21 hC => ?_)
  rw [nG_nG] at hC ⊢
  have E21 : ∀ i, i < 63 → ad21 i = gad Γ i := fun i hi => (e21 i (Nat.lt_of_lt_of_le hi (by decide +kernel))).trans (E20 i hi)
  replace hC : CX (nG Γ ad21) cX10_init RX10 LK165 1 1 := hC
  show GX (nG Γ ad21) LK165 _ _ [some (.ref (ad21 62))] [.ref (ad21 83), .ref (ad21 62)] μZ _
  refine GX_putR (a := 62) (b := 83) (L := LK165) hC fkX10_71 (inInit_nG hin) (show vwCl[10]? = some (RX10, TX10, 49) from rfl) rfl rfl (tyX10_ok 38 (by decide)) (fun _ => rfl) (fun _ => rfl) (show LK165[62]? = some (.inl (10, [none, some (some 63), some (some 64), none, none, none, some (some 65), some (some 66), some (some 67), some (some 68), none, some (some 69), none, none, none, none, none, some (some 70), some (some 71), some (some 72), some (some 73), some (some 74), none, none, none, none, none, some (some 75), some (some 76), none, none, some (some 77), some (some 78), some (some 79), some (some 80), some (some 81), some (some 82), none, some none, some none, none, none, some none, some none, some none, some none, some none, some none, some none])) by decide +kernel) (by decide) dX10_init_171 (fun hC => ?_)
  replace hC : CX (nG Γ ad21) cX10_init RX10 LK166 1 1 := hC
  show GX (nG Γ ad21) LK166 _ _ [some (.ref (ad21 62))] [] μZ _
  refine GX_aload_n hC dX10_init_174 rfl ?_
  refine GX_bipush hC 80 dX10_init_175 rfl ?_
  refine GX_newI hC 80 (alOK_nG hal) ac_int (by decide) rfl (by decide) (by decide +kernel) (kX_nG (hkk _ _ (by decide) (by decide))) dX10_init_177 (fun ad => [some (.ref (ad 62))]) (fun ad => [.ref (ad 62)]) rfl rfl (fun a b h => ⟨by first | rfl | simp only [h 62 (by decide +kernel)], by first | rfl | simp only [h 62 (by decide +kernel)]⟩) (fun ad22 e22 hC => ?_)
  rw [nG_nG] at hC ⊢
  have E22 : ∀ i, i < 63 → ad22 i = gad Γ i := fun i hi => (e22 i (Nat.lt_of_lt_of_le hi (by decide +kernel))).trans (E21 i hi)
  replace hC : CX (nG Γ ad22) cX10_init RX10 LK167 1 1 := hC
  show GX (nG Γ ad22) LK167 _ _ [some (.ref (ad22 62))] [.ref (ad22 84), .ref (ad22 62)] μZ _
  refine GX_putR (a := 62) (b := 84) (L := LK167) hC fkX10_74 (inInit_nG hin) (show vwCl[10]? = some (RX10, TX10, 49) from rfl) rfl rfl (tyX10_ok 39 (by decide)) (fun _ => rfl) (fun _ => rfl) (show LK167[62]? = some (.inl (10, [none, some (some 63), some (some 64), none, none, none, some (some 65), some (some 66), some (some 67), some (some 68), none, some (some 69), none, none, none, none, none, some (some 70), some (some 71), some (some 72), some (some 73), some (some 74), none, none, none, none, none, some (some 75), some (some 76), none, none, some (some 77), some (some 78), some (some 79), some (some 80), some (some 81), some (some 82), none, some (some 83), some none, none, none, some none, some none, some none, some none, some none, some none, some none])) by decide +kernel) (by decide) dX10_init_179 (fun hC => ?_)
  replace hC : CX (nG Γ ad22) cX10_init RX10 LK168 1 1 := hC
  show GX (nG Γ ad22) LK168 _ _ [some (.ref (ad22 62))] [] μZ _
  refine GX_aload_n hC dX10_init_182 rfl ?_
  refine GX_bipush hC 8 dX10_init_183 rfl ?_
  refine GX_newI hC 8 (alOK_nG hal) ac_int (by decide) rfl (by decide) (by decide +kernel) (kX_nG (hkk _ _ (by decide) (by decide))) dX10_init_185 (fun ad => [some (.ref (ad 62))]) (fun ad => [.ref (ad 62)]) rfl rfl (fun a b h => ⟨by first | rfl | simp only [h 62 (by decide +kernel)], by first | rfl | simp only [h 62 (by decide +kernel)]⟩) (fun ad23 e23 hC => ?_)
  rw [nG_nG] at hC ⊢
  have E23 : ∀ i, i < 63 → ad23 i = gad Γ i := fun i hi => (e23 i (Nat.lt_of_lt_of_le hi (by decide +kernel))).trans (E22 i hi)
  replace hC : CX (nG Γ ad23) cX10_init RX10 LK169 1 1 := hC
  show GX (nG Γ ad23) LK169 _ _ [some (.ref (ad23 62))] [.ref (ad23 85), .ref (ad23 62)] μZ _
  refine GX_putR (a := 62) (b := 85) (L := LK169) hC fkX10_77 (inInit_nG hin) (show vwCl[10]? = some (RX10, TX10, 49) from rfl) rfl rfl (tyX10_ok 42 (by decide)) (fun _ => rfl) (fun _ => rfl) (show LK169[62]? = some (.inl (10, [none, some (some 63), some (some 64), none, none, none, some (some 65), some (some 66), some (some 67), some (some 68), none, some (some 69), none, none, none, none, none, some (some 70), some (some 71), some (some 72), some (some 73), some (some 74), none, none, none, none, none, some (some 75), some (some 76), none, none, some (some 77), some (some 78), some (some 79), some (some 80), some (some 81), some (some 82), none, some (some 83), some (some 84), none, none, some none, some none, some none, some none, some none, some none, some none])) by decide +kernel) (by decide) dX10_init_187 (fun hC => ?_)
  replace hC : CX (nG Γ ad23) cX10_init RX10 LK170 1 1 := hC
  show GX (nG Γ ad23) LK170 _ _ [some (.ref (ad23 62))] [] μZ _
  refine GX_aload_n hC dX10_init_190 rfl ?_
  refine GX_bipush hC 8 dX10_init_191 rfl ?_
  refine GX_newI hC 8 (alOK_nG hal) ac_int (by decide) rfl (by decide) (by decide +kernel) (kX_nG (hkk _ _ (by decide) (by decide))) dX10_init_193 (fun ad => [some (.ref (ad 62))]) (fun ad => [.ref (ad 62)]) rfl rfl (fun a b h => ⟨by first | rfl | simp only [h 62 (by decide +kernel)], by first | rfl | simp only [h 62 (by decide +kernel)]⟩) (fun ad24 e24 hC => ?_)
  rw [nG_nG] at hC ⊢
  have E24 : ∀ i, i < 63 → ad24 i = gad Γ i := fun i hi => (e24 i (Nat.lt_of_lt_of_le hi (by decide +kernel))).trans (E23 i hi)
  replace hC : CX (nG Γ ad24) cX10_init RX10 LK171 1 1 := hC
  show GX (nG Γ ad24) LK171 _ _ [some (.ref (ad24 62))] [.ref (ad24 86), .ref (ad24 62)] μZ _
  refine GX_putR (a := 62) (b := 86) (L := LK171) hC fkX10_80 (inInit_nG hin) (show vwCl[10]? = some (RX10, TX10, 49) from rfl) rfl rfl (tyX10_ok 43 (by decide)) (fun _ => rfl) (fun _ => rfl) (show LK171[62]? = some (.inl (10, [none, some (some 63), some (some 64), none, none, none, some (some 65), some (some 66), some (some 67), some (some 68), none, some (some 69), none, none, none, none, none, some (some 70), some (some 71), some (some 72), some (some 73), some (some 74), none, none, none, none, none, some (some 75), some (some 76), none, none, some (some 77), some (some 78), some (some 79), some (some 80), some (some 81), some (some 82), none, some (some 83), some (some 84), none, none, some (some 85), some none, some none, some none, some none, some none, some none])) by decide +kernel) (by decide) dX10_init_195 (fun hC => ?_)
  replace hC : CX (nG Γ ad24) cX10_init RX10 LK172 1 1 := hC
  show GX (nG Γ ad24) LK172 _ _ [some (.ref (ad24 62))] [] μZ _
  refine GX_aload_n hC dX10_init_198 rfl ?_
  refine GX_bipush hC 8 dX10_init_199 rfl ?_
  refine GX_newI hC 8 (alOK_nG hal) ac_int (by decide) rfl (by decide) (by decide +kernel) (kX_nG (hkk _ _ (by decide) (by decide))) dX10_init_201 (fun ad => [some (.ref (ad 62))]) (fun ad => [.ref (ad 62)]) rfl rfl (fun a b h => ⟨by first | rfl | simp only [h 62 (by decide +kernel)], by first | rfl | simp only [h 62 (by decide +kernel)]⟩) (fun ad25 e25 hC => ?_)
  rw [nG_nG] at hC ⊢
  have E25 : ∀ i, i < 63 → ad25 i = gad Γ i := fun i hi => (e25 i (Nat.lt_of_lt_of_le hi (by decide +kernel))).trans (E24 i hi)
  replace hC : CX (nG Γ ad25) cX10_init RX10 LK173 1 1 := hC
  show GX (nG Γ ad25) LK173 _ _ [some (.ref (ad25 62))] [.ref (ad25 87), .ref (ad25 62)] μZ _
  refine GX_putR (a := 62) (b := 87) (L := LK173) hC fkX10_83 (inInit_nG hin) (show vwCl[10]? = some (RX10, TX10, 49) from rfl) rfl rfl (tyX10_ok 44 (by decide)) (fun _ => rfl) (fun _ => rfl) (show LK173[62]? = some (.inl (10, [none, some (some 63), some (some 64), none, none, none, some (some 65), some (some 66), some (some 67), some (some 68), none, some (some 69), none, none, none, none, none, some (some 70), some (some 71), some (some 72), some (some 73), some (some 74), none, none, none, none, none, some (some 75), some (some 76), none, none, some (some 77), some (some 78), some (some 79), some (some 80), some (some 81), some (some 82), none, some (some 83), some (some 84), none, none, some (some 85), some (some 86), some none, some none, some none, some none, some none])) by decide +kernel) (by decide) dX10_init_203 (fun hC => ?_)
  replace hC : CX (nG Γ ad25) cX10_init RX10 LK174 1 1 := hC
  show GX (nG Γ ad25) LK174 _ _ [some (.ref (ad25 62))] [] μZ _
  refine GX_aload_n hC dX10_init_206 rfl ?_
  refine GX_bipush hC 8 dX10_init_207 rfl ?_
  refine GX_newI hC 8 (alOK_nG hal) ac_int (by decide) rfl (by decide) (by decide +kernel) (kX_nG (hkk _ _ (by decide) (by decide))) dX10_init_209 (fun ad => [some (.ref (ad 62))]) (fun ad => [.ref (ad 62)]) rfl rfl (fun a b h => ⟨by first | rfl | simp only [h 62 (by decide +kernel)], by first | rfl | simp only [h 62 (by decide +kernel)]⟩) (fun ad26 e26 hC => ?_)
  rw [nG_nG] at hC ⊢
  have E26 : ∀ i, i < 63 → ad26 i = gad Γ i := fun i hi => (e26 i (Nat.lt_of_lt_of_le hi (by decide +kernel))).trans (E25 i hi)
  replace hC : CX (nG Γ ad26) cX10_init RX10 LK175 1 1 := hC
  show GX (nG Γ ad26) LK175 _ _ [some (.ref (ad26 62))] [.ref (ad26 88), .ref (ad26 62)] μZ _
  refine GX_putR (a := 62) (b := 88) (L := LK175) hC fkX10_86 (inInit_nG hin) (show vwCl[10]? = some (RX10, TX10, 49) from rfl) rfl rfl (tyX10_ok 45 (by decide)) (fun _ => rfl) (fun _ => rfl) (show LK175[62]? = some (.inl (10, [none, some (some 63), some (some 64), none, none, none, some (some 65), some (some 66), some (some 67), some (some 68), none, some (some 69), none, none, none, none, none, some (some 70), some (some 71), some (some 72), some (some 73), some (some 74), none, none, none, none, none, some (some 75), some (some 76), none, none, some (some 77), some (some 78), some (some 79), some (some 80), some (some 81), some (some 82), none, some (some 83), some (some 84), none, none, some (some 85), some (some 86), some (some 87), some none, some none, some none, some none])) by decide +kernel) (by decide) dX10_init_211 (fun hC => ?_)
  replace hC : CX (nG Γ ad26) cX10_init RX10 LK176 1 1 := hC
  show GX (nG Γ ad26) LK176 _ _ [some (.ref (ad26 62))] [] μZ _
  refine GX_aload_n hC dX10_init_214 rfl ?_
  refine GX_bipush hC 8 dX10_init_215 rfl ?_
  refine GX_newI hC 8 (alOK_nG hal) ac_int (by decide) rfl (by decide) (by decide +kernel) (kX_nG (hkk _ _ (by decide) (by decide))) dX10_init_217 (fun ad => [some (.ref (ad 62))]) (fun ad => [.ref (ad 62)]) rfl rfl (fun a b h => ⟨by first | rfl | simp only [h 62 (by decide +kernel)], by first | rfl | simp only [h 62 (by decide +kernel)]⟩) (fun ad27 e27 hC => ?_)
  rw [nG_nG] at hC ⊢
  have E27 : ∀ i, i < 63 → ad27 i = gad Γ i := fun i hi => (e27 i (Nat.lt_of_lt_of_le hi (by decide +kernel))).trans (E26 i hi)
  replace hC : CX (nG Γ ad27) cX10_init RX10 LK177 1 1 := hC
  show GX (nG Γ ad27) LK177 _ _ [some (.ref (ad27 62))] [.ref (ad27 89), .ref (ad27 62)] μZ _
  refine GX_putR (a := 62) (b := 89) (L := LK177) hC fkX10_89 (inInit_nG hin) (show vwCl[10]? = some (RX10, TX10, 49) from rfl) rfl rfl (tyX10_ok 46 (by decide)) (fun _ => rfl) (fun _ => rfl) (show LK177[62]? = some (.inl (10, [none, some (some 63), some (some 64), none, none, none, some (some 65), some (some 66), some (some 67), some (some 68), none, some (some 69), none, none, none, none, none, some (some 70), some (some 71), some (some 72), some (some 73), some (some 74), none, none, none, none, none, some (some 75), some (some 76), none, none, some (some 77), some (some 78), some (some 79), some (some 80), some (some 81), some (some 82), none, some (some 83), some (some 84), none, none, some (some 85), some (some 86), some (some 87), some (some 88), some none, some none, some none])) by decide +kernel) (by decide) dX10_init_219 (fun hC => ?_)
  replace hC : CX (nG Γ ad27) cX10_init RX10 LK178 1 1 := hC
  show GX (nG Γ ad27) LK178 _ _ [some (.ref (ad27 62))] [] μZ _
  refine GX_aload_n hC dX10_init_222 rfl ?_
  refine GX_sipush hC 800 dX10_init_223 rfl ?_
  refine GX_newL hC 800 (alOK_nG hal) ac_long (by decide) rfl (by decide) (by decide +kernel) (kX_nG (hkk _ _ (by decide) (by decide))) dX10_init_226 (fun ad => [some (.ref (ad 62))]) (fun ad => [.ref (ad 62)]) rfl rfl (fun a b h => ⟨by first | rfl | simp only [h 62 (by decide +kernel)], by first | rfl | simp only [h 62 (by decide +kernel)]⟩) (fun ad28 e28 hC => ?_)
  rw [nG_nG] at hC ⊢
  have E28 : ∀ i, i < 63 → ad28 i = gad Γ i := fun i hi => (e28 i (Nat.lt_of_lt_of_le hi (by decide +kernel))).trans (E27 i hi)
  replace hC : CX (nG Γ ad28) cX10_init RX10 LK179 1 1 := hC
  show GX (nG Γ ad28) LK179 _ _ [some (.ref (ad28 62))] [.ref (ad28 90), .ref (ad28 62)] μZ _
  refine GX_putR (a := 62) (b := 90) (L := LK179) hC fkX10_92 (inInit_nG hin) (show vwCl[10]? = some (RX10, TX10, 49) from rfl) rfl rfl (tyX10_ok 47 (by decide)) (fun _ => rfl) (fun _ => rfl) (show LK179[62]? = some (.inl (10, [none, some (some 63), some (some 64), none, none, none, some (some 65), some (some 66), some (some 67), some (some 68), none, some (some 69), none, none, none, none, none, some (some 70), some (some 71), some (some 72), some (some 73), some (some 74), none, none, none, none, none, some (some 75), some (some 76), none, none, some (some 77), some (some 78), some (some 79), some (some 80), some (some 81), some (some 82), none, some (some 83), some (some 84), none, none, some (some 85), some (some 86), some (some 87), some (some 88), some (some 89), some none, some none])) by decide +kernel) (by decide) dX10_init_228 (fun hC => ?_)
  replace hC : CX (nG Γ ad28) cX10_init RX10 LK180 1 1 := hC
  show GX (nG Γ ad28) LK180 _ _ [some (.ref (ad28 62))] [] μZ _
  refine GX_aload_n hC dX10_init_231 rfl ?_
  refine GX_bipush hC 100 dX10_init_232 rfl ?_
  refine GX_newL hC 100 (alOK_nG hal) ac_long (by decide) rfl (by decide) (by decide +kernel) (kX_nG (hkk _ _ (by decide) (by decide))) dX10_init_234 (fun ad => [some (.ref (ad 62))]) (fun ad => [.ref (ad 62)]) rfl rfl (fun a b h => ⟨by first | rfl | simp only [h 62 (by decide +kernel)], by first | rfl | simp only [h 62 (by decide +kernel)]⟩) (fun ad29 e29 hC => ?_)
  rw [nG_nG] at hC ⊢
  have E29 : ∀ i, i < 63 → ad29 i = gad Γ i := fun i hi => (e29 i (Nat.lt_of_lt_of_le hi (by decide +kernel))).trans (E28 i hi)
  replace hC : CX (nG Γ ad29) cX10_init RX10 LK181 1 1 := hC
  show GX (nG Γ ad29) LK181 _ _ [some (.ref (ad29 62))] [.ref (ad29 91), .ref (ad29 62)] μZ _
  refine GX_putR (a := 62) (b := 91) (L := LK181) hC fkX10_96 (inInit_nG hin) (show vwCl[10]? = some (RX10, TX10, 49) from rfl) rfl rfl (tyX10_ok 48 (by decide)) (fun _ => rfl) (fun _ => rfl) (show LK181[62]? = some (.inl (10, [none, some (some 63), some (some 64), none, none, none, some (some 65), some (some 66), some (some 67), some (some 68), none, some (some 69), none, none, none, none, none, some (some 70), some (some 71), some (some 72), some (some 73), some (some 74), none, none, none, none, none, some (some 75), some (some 76), none, none, some (some 77), some (some 78), some (some 79), some (some 80), some (some 81), some (some 82), none, some (some 83), some (some 84), none, none, some (some 85), some (some 86), some (some 87), some (some 88), some (some 89), some (some 90), some none])) by decide +kernel) (by decide) dX10_init_236 (fun hC => ?_)
  replace hC : CX (nG Γ ad29) cX10_init RX10 LK182 1 1 := hC
  show GX (nG Γ ad29) LK182 _ _ [some (.ref (ad29 62))] [] μZ _
  refine GX_aload_n hC dX10_init_239 rfl ?_
  refine GX_iconst hC 0 dX10_init_240 rfl ?_
  refine GX_putI (a := 62) (L := LK182) (μ := μZ) (x := 0) hC fkX10_99 ftX10_10 (show LK182[62]? = some (.inl (10, [none, some (some 63), some (some 64), none, none, none, some (some 65), some (some 66), some (some 67), some (some 68), none, some (some 69), none, none, none, none, none, some (some 70), some (some 71), some (some 72), some (some 73), some (some 74), none, none, none, none, none, some (some 75), some (some 76), none, none, some (some 77), some (some 78), some (some 79), some (some 80), some (some 81), some (some 82), none, some (some 83), some (some 84), none, none, some (some 85), some (some 86), some (some 87), some (some 88), some (some 89), some (some 90), some (some 91)])) by decide +kernel) rfl dX10_init_241 ?_
  rw [show ∀ z w : Nat, si μZ z w 0 = μZ from si_Z]
  exact GX_vretI hC (RXI_nG hR) E29 dX10_init_244
